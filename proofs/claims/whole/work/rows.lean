section
-- ===== PART A: goes FIRST, ahead of the names: the tables' words, and 'selects' of the private methods out of them =====
/-- a private method of a class that the tables say can be made, by its rows of tables_1 -/
def lw_okq (q : MethodName × Nat) : Prop := (q.1.cls ≠ "java/lang/invoke/MethodHandle" ∧ q.1.cls ≠ "java/lang/invoke/VarHandle") ∧ Cond.instantiable q.1.cls q.2 ∈ tables_1 ∧ Cond.privateMethod q.1 ∈ tables_1 ∧ Cond.instanceMethod q.1 ∈ tables_1
theorem lw_p0 : lw_okq (⟨"UnderTheRope", "layText", "()Z"⟩, 11) := ⟨⟨by decide +kernel, by decide +kernel⟩, List.mem_of_getElem? (i := 19) (by decide +kernel), List.mem_of_getElem? (i := 346) (by decide +kernel), List.mem_of_getElem? (i := 347) (by decide +kernel)⟩
theorem lw_p1 : lw_okq (⟨"UnderTheRope", "isBoat", "(I)Z"⟩, 11) := ⟨⟨by decide +kernel, by decide +kernel⟩, List.mem_of_getElem? (i := 19) (by decide +kernel), List.mem_of_getElem? (i := 479) (by decide +kernel), List.mem_of_getElem? (i := 480) (by decide +kernel)⟩
theorem lw_p2 : lw_okq (⟨"UnderTheRope", "areTwo", "(II)Z"⟩, 11) := ⟨⟨by decide +kernel, by decide +kernel⟩, List.mem_of_getElem? (i := 19) (by decide +kernel), List.mem_of_getElem? (i := 601) (by decide +kernel), List.mem_of_getElem? (i := 602) (by decide +kernel)⟩
theorem lw_p3 : lw_okq (⟨"UnderTheRope", "leastRule", "()I"⟩, 11) := ⟨⟨by decide +kernel, by decide +kernel⟩, List.mem_of_getElem? (i := 19) (by decide +kernel), List.mem_of_getElem? (i := 610) (by decide +kernel), List.mem_of_getElem? (i := 611) (by decide +kernel)⟩
theorem lw_p4 : lw_okq (⟨"UnderTheRope", "standExchanged", "(III)I"⟩, 11) := ⟨⟨by decide +kernel, by decide +kernel⟩, List.mem_of_getElem? (i := 19) (by decide +kernel), List.mem_of_getElem? (i := 632) (by decide +kernel), List.mem_of_getElem? (i := 633) (by decide +kernel)⟩
theorem lw_p5 : lw_okq (⟨"UnderTheRope", "minutesToSink", "(I)I"⟩, 11) := ⟨⟨by decide +kernel, by decide +kernel⟩, List.mem_of_getElem? (i := 19) (by decide +kernel), List.mem_of_getElem? (i := 640) (by decide +kernel), List.mem_of_getElem? (i := 641) (by decide +kernel)⟩
theorem lw_p6 : lw_okq (⟨"UnderTheRope", "isRest", "(III)Z"⟩, 11) := ⟨⟨by decide +kernel, by decide +kernel⟩, List.mem_of_getElem? (i := 19) (by decide +kernel), List.mem_of_getElem? (i := 663) (by decide +kernel), List.mem_of_getElem? (i := 664) (by decide +kernel)⟩
theorem lw_p7 : lw_okq (⟨"UnderTheRope", "standChoosing", "(IZZ)I"⟩, 11) := ⟨⟨by decide +kernel, by decide +kernel⟩, List.mem_of_getElem? (i := 19) (by decide +kernel), List.mem_of_getElem? (i := 667) (by decide +kernel), List.mem_of_getElem? (i := 668) (by decide +kernel)⟩
theorem lw_p8 : lw_okq (⟨"UnderTheRope", "fitsSightings", "(I)Z"⟩, 11) := ⟨⟨by decide +kernel, by decide +kernel⟩, List.mem_of_getElem? (i := 19) (by decide +kernel), List.mem_of_getElem? (i := 687) (by decide +kernel), List.mem_of_getElem? (i := 688) (by decide +kernel)⟩
theorem lw_p9 : lw_okq (⟨"UnderTheRopeModel", "noCut", "(I)V"⟩, 34) := ⟨⟨by decide +kernel, by decide +kernel⟩, List.mem_of_getElem? (i := 731) (by decide +kernel), List.mem_of_getElem? (i := 737) (by decide +kernel), List.mem_of_getElem? (i := 738) (by decide +kernel)⟩
theorem lw_p10 : lw_okq (⟨"UnderTheRopeModel", "addBoat", "(IIIIII)V"⟩, 34) := ⟨⟨by decide +kernel, by decide +kernel⟩, List.mem_of_getElem? (i := 731) (by decide +kernel), List.mem_of_getElem? (i := 741) (by decide +kernel), List.mem_of_getElem? (i := 742) (by decide +kernel)⟩
theorem lw_p11 : lw_okq (⟨"UnderTheRopeModel", "begin", "()V"⟩, 34) := ⟨⟨by decide +kernel, by decide +kernel⟩, List.mem_of_getElem? (i := 731) (by decide +kernel), List.mem_of_getElem? (i := 745) (by decide +kernel), List.mem_of_getElem? (i := 746) (by decide +kernel)⟩
theorem lw_p12 : lw_okq (⟨"UnderTheRopeModel", "readAll", "()I"⟩, 34) := ⟨⟨by decide +kernel, by decide +kernel⟩, List.mem_of_getElem? (i := 731) (by decide +kernel), List.mem_of_getElem? (i := 869) (by decide +kernel), List.mem_of_getElem? (i := 870) (by decide +kernel)⟩
theorem lw_p13 : lw_okq (⟨"UnderTheRopeModel", "item", "()Z"⟩, 34) := ⟨⟨by decide +kernel, by decide +kernel⟩, List.mem_of_getElem? (i := 731) (by decide +kernel), List.mem_of_getElem? (i := 873) (by decide +kernel), List.mem_of_getElem? (i := 874) (by decide +kernel)⟩
theorem lw_p14 : lw_okq (⟨"UnderTheRopeModel", "letterAt", "(I)I"⟩, 34) := ⟨⟨by decide +kernel, by decide +kernel⟩, List.mem_of_getElem? (i := 731) (by decide +kernel), List.mem_of_getElem? (i := 877) (by decide +kernel), List.mem_of_getElem? (i := 878) (by decide +kernel)⟩
theorem lw_p15 : lw_okq (⟨"UnderTheRopeModel", "boatItem", "()Z"⟩, 34) := ⟨⟨by decide +kernel, by decide +kernel⟩, List.mem_of_getElem? (i := 731) (by decide +kernel), List.mem_of_getElem? (i := 881) (by decide +kernel), List.mem_of_getElem? (i := 882) (by decide +kernel)⟩
def lw_privs_1 : List (MethodName × Nat) := [(⟨"UnderTheRope", "layText", "()Z"⟩, 11), (⟨"UnderTheRope", "isBoat", "(I)Z"⟩, 11), (⟨"UnderTheRope", "areTwo", "(II)Z"⟩, 11), (⟨"UnderTheRope", "leastRule", "()I"⟩, 11), (⟨"UnderTheRope", "standExchanged", "(III)I"⟩, 11), (⟨"UnderTheRope", "minutesToSink", "(I)I"⟩, 11), (⟨"UnderTheRope", "isRest", "(III)Z"⟩, 11), (⟨"UnderTheRope", "standChoosing", "(IZZ)I"⟩, 11), (⟨"UnderTheRope", "fitsSightings", "(I)Z"⟩, 11), (⟨"UnderTheRopeModel", "noCut", "(I)V"⟩, 34), (⟨"UnderTheRopeModel", "addBoat", "(IIIIII)V"⟩, 34), (⟨"UnderTheRopeModel", "begin", "()V"⟩, 34), (⟨"UnderTheRopeModel", "readAll", "()I"⟩, 34), (⟨"UnderTheRopeModel", "item", "()Z"⟩, 34), (⟨"UnderTheRopeModel", "letterAt", "(I)I"⟩, 34), (⟨"UnderTheRopeModel", "boatItem", "()Z"⟩, 34)]
theorem lw_r1 : ∀ q ∈ lw_privs_1, lw_okq q := List.forall_mem_cons.mpr ⟨lw_p0, List.forall_mem_cons.mpr ⟨lw_p1, List.forall_mem_cons.mpr ⟨lw_p2, List.forall_mem_cons.mpr ⟨lw_p3, List.forall_mem_cons.mpr ⟨lw_p4, List.forall_mem_cons.mpr ⟨lw_p5, List.forall_mem_cons.mpr ⟨lw_p6, List.forall_mem_cons.mpr ⟨lw_p7, List.forall_mem_cons.mpr ⟨lw_p8, List.forall_mem_cons.mpr ⟨lw_p9, List.forall_mem_cons.mpr ⟨lw_p10, List.forall_mem_cons.mpr ⟨lw_p11, List.forall_mem_cons.mpr ⟨lw_p12, List.forall_mem_cons.mpr ⟨lw_p13, List.forall_mem_cons.mpr ⟨lw_p14, List.forall_mem_cons.mpr ⟨lw_p15, fun _ h => absurd h List.not_mem_nil⟩⟩⟩⟩⟩⟩⟩⟩⟩⟩⟩⟩⟩⟩⟩⟩
theorem lw_p16 : lw_okq (⟨"UnderTheRopeModel", "figures", "(I)Z"⟩, 34) := ⟨⟨by decide +kernel, by decide +kernel⟩, List.mem_of_getElem? (i := 731) (by decide +kernel), List.mem_of_getElem? (i := 885) (by decide +kernel), List.mem_of_getElem? (i := 886) (by decide +kernel)⟩
theorem lw_p17 : lw_okq (⟨"UnderTheRopeModel", "narrowItem", "()Z"⟩, 34) := ⟨⟨by decide +kernel, by decide +kernel⟩, List.mem_of_getElem? (i := 731) (by decide +kernel), List.mem_of_getElem? (i := 893) (by decide +kernel), List.mem_of_getElem? (i := 894) (by decide +kernel)⟩
theorem lw_p18 : lw_okq (⟨"UnderTheRopeModel", "setLaw", "(III)Z"⟩, 34) := ⟨⟨by decide +kernel, by decide +kernel⟩, List.mem_of_getElem? (i := 731) (by decide +kernel), List.mem_of_getElem? (i := 897) (by decide +kernel), List.mem_of_getElem? (i := 898) (by decide +kernel)⟩
theorem lw_p19 : lw_okq (⟨"UnderTheRopeModel", "isBoat", "(I)Z"⟩, 34) := ⟨⟨by decide +kernel, by decide +kernel⟩, List.mem_of_getElem? (i := 731) (by decide +kernel), List.mem_of_getElem? (i := 909) (by decide +kernel), List.mem_of_getElem? (i := 910) (by decide +kernel)⟩
theorem lw_p20 : lw_okq (⟨"UnderTheRopeModel", "goDay", "(I)I"⟩, 34) := ⟨⟨by decide +kernel, by decide +kernel⟩, List.mem_of_getElem? (i := 731) (by decide +kernel), List.mem_of_getElem? (i := 922) (by decide +kernel), List.mem_of_getElem? (i := 923) (by decide +kernel)⟩
theorem lw_p21 : lw_okq (⟨"UnderTheRopeModel", "endOf", "(I)I"⟩, 34) := ⟨⟨by decide +kernel, by decide +kernel⟩, List.mem_of_getElem? (i := 731) (by decide +kernel), List.mem_of_getElem? (i := 926) (by decide +kernel), List.mem_of_getElem? (i := 927) (by decide +kernel)⟩
theorem lw_p22 : lw_okq (⟨"UnderTheRopeModel", "goMinute", "(II)V"⟩, 34) := ⟨⟨by decide +kernel, by decide +kernel⟩, List.mem_of_getElem? (i := 731) (by decide +kernel), List.mem_of_getElem? (i := 930) (by decide +kernel), List.mem_of_getElem? (i := 931) (by decide +kernel)⟩
theorem lw_p23 : lw_okq (⟨"UnderTheRopeModel", "doMeet", "(III)Z"⟩, 34) := ⟨⟨by decide +kernel, by decide +kernel⟩, List.mem_of_getElem? (i := 731) (by decide +kernel), List.mem_of_getElem? (i := 934) (by decide +kernel), List.mem_of_getElem? (i := 935) (by decide +kernel)⟩
theorem lw_p24 : lw_okq (⟨"UnderTheRopeModel", "meet", "(IIII)V"⟩, 34) := ⟨⟨by decide +kernel, by decide +kernel⟩, List.mem_of_getElem? (i := 731) (by decide +kernel), List.mem_of_getElem? (i := 938) (by decide +kernel), List.mem_of_getElem? (i := 939) (by decide +kernel)⟩
theorem lw_p25 : lw_okq (⟨"UnderTheRopeModel", "yielder", "(III)I"⟩, 34) := ⟨⟨by decide +kernel, by decide +kernel⟩, List.mem_of_getElem? (i := 731) (by decide +kernel), List.mem_of_getElem? (i := 942) (by decide +kernel), List.mem_of_getElem? (i := 943) (by decide +kernel)⟩
theorem lw_p26 : lw_okq (⟨"UnderTheRopeModel", "byRule", "(III)I"⟩, 34) := ⟨⟨by decide +kernel, by decide +kernel⟩, List.mem_of_getElem? (i := 731) (by decide +kernel), List.mem_of_getElem? (i := 946) (by decide +kernel), List.mem_of_getElem? (i := 947) (by decide +kernel)⟩
theorem lw_p27 : lw_okq (⟨"UnderTheRopeModel", "byCustom", "(II)I"⟩, 34) := ⟨⟨by decide +kernel, by decide +kernel⟩, List.mem_of_getElem? (i := 731) (by decide +kernel), List.mem_of_getElem? (i := 950) (by decide +kernel), List.mem_of_getElem? (i := 951) (by decide +kernel)⟩
theorem lw_p28 : lw_okq (⟨"UnderTheRopeModel", "byLoad", "(II)I"⟩, 34) := ⟨⟨by decide +kernel, by decide +kernel⟩, List.mem_of_getElem? (i := 731) (by decide +kernel), List.mem_of_getElem? (i := 954) (by decide +kernel), List.mem_of_getElem? (i := 955) (by decide +kernel)⟩
theorem lw_p29 : lw_okq (⟨"UnderTheRopeModel", "loss", "(I)I"⟩, 34) := ⟨⟨by decide +kernel, by decide +kernel⟩, List.mem_of_getElem? (i := 731) (by decide +kernel), List.mem_of_getElem? (i := 958) (by decide +kernel), List.mem_of_getElem? (i := 959) (by decide +kernel)⟩
theorem lw_p30 : lw_okq (⟨"UnderTheRopeModel", "isNarrow", "(I)Z"⟩, 34) := ⟨⟨by decide +kernel, by decide +kernel⟩, List.mem_of_getElem? (i := 731) (by decide +kernel), List.mem_of_getElem? (i := 962) (by decide +kernel), List.mem_of_getElem? (i := 963) (by decide +kernel)⟩
theorem lw_p31 : lw_okq (⟨"UnderTheRopeModel", "standMore", "(III)V"⟩, 34) := ⟨⟨by decide +kernel, by decide +kernel⟩, List.mem_of_getElem? (i := 731) (by decide +kernel), List.mem_of_getElem? (i := 966) (by decide +kernel), List.mem_of_getElem? (i := 967) (by decide +kernel)⟩
def lw_privs_2 : List (MethodName × Nat) := [(⟨"UnderTheRopeModel", "figures", "(I)Z"⟩, 34), (⟨"UnderTheRopeModel", "narrowItem", "()Z"⟩, 34), (⟨"UnderTheRopeModel", "setLaw", "(III)Z"⟩, 34), (⟨"UnderTheRopeModel", "isBoat", "(I)Z"⟩, 34), (⟨"UnderTheRopeModel", "goDay", "(I)I"⟩, 34), (⟨"UnderTheRopeModel", "endOf", "(I)I"⟩, 34), (⟨"UnderTheRopeModel", "goMinute", "(II)V"⟩, 34), (⟨"UnderTheRopeModel", "doMeet", "(III)Z"⟩, 34), (⟨"UnderTheRopeModel", "meet", "(IIII)V"⟩, 34), (⟨"UnderTheRopeModel", "yielder", "(III)I"⟩, 34), (⟨"UnderTheRopeModel", "byRule", "(III)I"⟩, 34), (⟨"UnderTheRopeModel", "byCustom", "(II)I"⟩, 34), (⟨"UnderTheRopeModel", "byLoad", "(II)I"⟩, 34), (⟨"UnderTheRopeModel", "loss", "(I)I"⟩, 34), (⟨"UnderTheRopeModel", "isNarrow", "(I)Z"⟩, 34), (⟨"UnderTheRopeModel", "standMore", "(III)V"⟩, 34)]
theorem lw_r2 : ∀ q ∈ lw_privs_2, lw_okq q := List.forall_mem_cons.mpr ⟨lw_p16, List.forall_mem_cons.mpr ⟨lw_p17, List.forall_mem_cons.mpr ⟨lw_p18, List.forall_mem_cons.mpr ⟨lw_p19, List.forall_mem_cons.mpr ⟨lw_p20, List.forall_mem_cons.mpr ⟨lw_p21, List.forall_mem_cons.mpr ⟨lw_p22, List.forall_mem_cons.mpr ⟨lw_p23, List.forall_mem_cons.mpr ⟨lw_p24, List.forall_mem_cons.mpr ⟨lw_p25, List.forall_mem_cons.mpr ⟨lw_p26, List.forall_mem_cons.mpr ⟨lw_p27, List.forall_mem_cons.mpr ⟨lw_p28, List.forall_mem_cons.mpr ⟨lw_p29, List.forall_mem_cons.mpr ⟨lw_p30, List.forall_mem_cons.mpr ⟨lw_p31, fun _ h => absurd h List.not_mem_nil⟩⟩⟩⟩⟩⟩⟩⟩⟩⟩⟩⟩⟩⟩⟩⟩
theorem lw_p32 : lw_okq (⟨"UnderTheRopeModel", "note", "()V"⟩, 34) := ⟨⟨by decide +kernel, by decide +kernel⟩, List.mem_of_getElem? (i := 731) (by decide +kernel), List.mem_of_getElem? (i := 995) (by decide +kernel), List.mem_of_getElem? (i := 996) (by decide +kernel)⟩
theorem lw_p33 : lw_okq (⟨"UnderTheRopeModel", "areTwo", "(II)Z"⟩, 34) := ⟨⟨by decide +kernel, by decide +kernel⟩, List.mem_of_getElem? (i := 731) (by decide +kernel), List.mem_of_getElem? (i := 1012) (by decide +kernel), List.mem_of_getElem? (i := 1013) (by decide +kernel)⟩
theorem lw_p34 : lw_okq (⟨"UnderTheRopeModel", "change", "(II)V"⟩, 34) := ⟨⟨by decide +kernel, by decide +kernel⟩, List.mem_of_getElem? (i := 731) (by decide +kernel), List.mem_of_getElem? (i := 1033) (by decide +kernel), List.mem_of_getElem? (i := 1034) (by decide +kernel)⟩
theorem lw_p35 : lw_okq (⟨"UnderTheRopeModel", "sinksIn", "(I)I"⟩, 34) := ⟨⟨by decide +kernel, by decide +kernel⟩, List.mem_of_getElem? (i := 731) (by decide +kernel), List.mem_of_getElem? (i := 1041) (by decide +kernel), List.mem_of_getElem? (i := 1042) (by decide +kernel)⟩
theorem lw_p36 : lw_okq (⟨"UnderTheRopeModel", "standsBy", "(IZZ)I"⟩, 34) := ⟨⟨by decide +kernel, by decide +kernel⟩, List.mem_of_getElem? (i := 731) (by decide +kernel), List.mem_of_getElem? (i := 1058) (by decide +kernel), List.mem_of_getElem? (i := 1059) (by decide +kernel)⟩
def lw_privs_3 : List (MethodName × Nat) := [(⟨"UnderTheRopeModel", "note", "()V"⟩, 34), (⟨"UnderTheRopeModel", "areTwo", "(II)Z"⟩, 34), (⟨"UnderTheRopeModel", "change", "(II)V"⟩, 34), (⟨"UnderTheRopeModel", "sinksIn", "(I)I"⟩, 34), (⟨"UnderTheRopeModel", "standsBy", "(IZZ)I"⟩, 34)]
theorem lw_r3 : ∀ q ∈ lw_privs_3, lw_okq q := List.forall_mem_cons.mpr ⟨lw_p32, List.forall_mem_cons.mpr ⟨lw_p33, List.forall_mem_cons.mpr ⟨lw_p34, List.forall_mem_cons.mpr ⟨lw_p35, List.forall_mem_cons.mpr ⟨lw_p36, fun _ h => absurd h List.not_mem_nil⟩⟩⟩⟩⟩
def lw_privs : List (MethodName × Nat) := lw_privs_1 ++ (lw_privs_2 ++ (lw_privs_3))
def lw_tbl : List Cond := k2_sels lw_privs ++ tables_1
theorem lw_privs_ok : ∀ q ∈ lw_privs, lw_okq q := by
  show ∀ q ∈ lw_privs_1 ++ (lw_privs_2 ++ (lw_privs_3)), lw_okq q
  exact List.forall_mem_append.mpr ⟨lw_r1, List.forall_mem_append.mpr ⟨lw_r2, lw_r3⟩⟩
-- ===== end of PART A; then your names; then what follows =====
end
section
def RX0 : String := "UnderTheRope$Changes"
def TX0 : u_T := fun k => match k with
  | 0 => ("UnderTheRope$Changes", "whose", "[I", true)
  | 1 => ("UnderTheRope$Changes", "ofLoad", "[Z", true)
  | 2 => ("UnderTheRope$Changes", "was", "[I", true)
  | _ => ("UnderTheRope$Changes", "size", "I", false)
def tyX0 : Nat → FieldType := fun k => match k with
  | 0 => .array .int
  | 1 => .array .boolean
  | 2 => .array .int
  | _ => .int
abbrev wsX00 : List Cond := u_ws RX0 TX0 4
theorem nmX0 : ∀ a, a < 4 → ∀ b, b < 4 → a ≠ b → (TX0 a).2.1 ≠ (TX0 b).2.1 := by decide +kernel
theorem tyX0_ok : ∀ k, k < 4 → parseFieldDescriptor (TX0 k).2.2.1 = some (tyX0 k) := by decide +kernel
abbrev cX0_init : ByteArray := prog_2_method_1_code
def yX0_init : MethodName := ⟨RX0, "<init>", "()V"⟩
abbrev cX0_note : ByteArray := prog_2_method_2_code
def yX0_note : MethodName := ⟨RX0, "note", "(IZI)V"⟩
abbrev cX0_dropOldest : ByteArray := prog_2_method_3_code
def yX0_dropOldest : MethodName := ⟨RX0, "dropOldest", "()V"⟩
abbrev cX0_takeBack : ByteArray := prog_2_method_4_code
def yX0_takeBack : MethodName := ⟨RX0, "takeBack", "(LUnderTheRope$Plan;)Z"⟩
def RX1 : String := "UnderTheRope$Cut"
def TX1 : u_T := fun k => match k with
  | 0 => ("UnderTheRope$Cut", "boats", "I", false)
  | 1 => ("UnderTheRope$Cut", "narrows", "I", false)
  | 2 => ("UnderTheRope$Cut", "yieldMinutes", "I", false)
  | 3 => ("UnderTheRope$Cut", "heldMinutes", "I", false)
  | 4 => ("UnderTheRope$Cut", "sinkFeet", "I", false)
  | 5 => ("UnderTheRope$Cut", "driftMinutes", "I", false)
  | 6 => ("UnderTheRope$Cut", "cell", "[I", true)
  | 7 => ("UnderTheRope$Cut", "way", "[I", true)
  | 8 => ("UnderTheRope$Cut", "pace", "[I", true)
  | 9 => ("UnderTheRope$Cut", "toldLoad", "[I", true)
  | 10 => ("UnderTheRope$Cut", "kind", "[I", true)
  | 11 => ("UnderTheRope$Cut", "narrowFrom", "[I", true)
  | _ => ("UnderTheRope$Cut", "narrowTo", "[I", true)
def tyX1 : Nat → FieldType := fun k => match k with
  | 0 => .int
  | 1 => .int
  | 2 => .int
  | 3 => .int
  | 4 => .int
  | 5 => .int
  | 6 => .array .int
  | 7 => .array .int
  | 8 => .array .int
  | 9 => .array .int
  | 10 => .array .int
  | 11 => .array .int
  | _ => .array .int
abbrev wsX10 : List Cond := u_ws RX1 TX1 13
theorem nmX1 : ∀ a, a < 13 → ∀ b, b < 13 → a ≠ b → (TX1 a).2.1 ≠ (TX1 b).2.1 := by decide +kernel
theorem tyX1_ok : ∀ k, k < 13 → parseFieldDescriptor (TX1 k).2.2.1 = some (tyX1 k) := by decide +kernel
abbrev cX1_init : ByteArray := prog_3_method_1_code
def yX1_init : MethodName := ⟨RX1, "<init>", "()V"⟩
abbrev cX1_clear : ByteArray := prog_3_method_2_code
def yX1_clear : MethodName := ⟨RX1, "clear", "()V"⟩
abbrev cX1_copy : ByteArray := prog_3_method_3_code
def yX1_copy : MethodName := ⟨RX1, "copy", "(LUnderTheRope$Cut;)V"⟩
abbrev cX1_isNarrow : ByteArray := prog_3_method_4_code
def yX1_isNarrow : MethodName := ⟨RX1, "isNarrow", "(I)Z"⟩
def RX2 : String := "UnderTheRope$Passage"
def TX2 : u_T := fun k => match k with
  | 0 => ("UnderTheRope$Passage", "cut", "LUnderTheRope$Cut;", true)
  | 1 => ("UnderTheRope$Passage", "rules", "LUnderTheRope$Rules;", true)
  | 2 => ("UnderTheRope$Passage", "before", "[I", true)
  | 3 => ("UnderTheRope$Passage", "at", "[I", true)
  | 4 => ("UnderTheRope$Passage", "standing", "[I", true)
  | 5 => ("UnderTheRope$Passage", "arrived", "[I", true)
  | 6 => ("UnderTheRope$Passage", "made", "[I", true)
  | 7 => ("UnderTheRope$Passage", "yielded", "[I", true)
  | 8 => ("UnderTheRope$Passage", "started", "[I", true)
  | 9 => ("UnderTheRope$Passage", "allMade", "I", false)
  | 10 => ("UnderTheRope$Passage", "underWay", "I", false)
  | 11 => ("UnderTheRope$Passage", "met", "I", false)
  | 12 => ("UnderTheRope$Passage", "minuteOf", "[I", true)
  | 13 => ("UnderTheRope$Passage", "pairOf", "[I", true)
  | 14 => ("UnderTheRope$Passage", "yielderOf", "[I", true)
  | _ => ("UnderTheRope$Passage", "placeOf", "[I", true)
def tyX2 : Nat → FieldType := fun k => match k with
  | 0 => .object "UnderTheRope$Cut"
  | 1 => .object "UnderTheRope$Rules"
  | 2 => .array .int
  | 3 => .array .int
  | 4 => .array .int
  | 5 => .array .int
  | 6 => .array .int
  | 7 => .array .int
  | 8 => .array .int
  | 9 => .int
  | 10 => .int
  | 11 => .int
  | 12 => .array .int
  | 13 => .array .int
  | 14 => .array .int
  | _ => .array .int
abbrev wsX20 : List Cond := u_ws RX2 TX2 16
theorem nmX2 : ∀ a, a < 16 → ∀ b, b < 16 → a ≠ b → (TX2 a).2.1 ≠ (TX2 b).2.1 := by decide +kernel
theorem tyX2_ok : ∀ k, k < 16 → parseFieldDescriptor (TX2 k).2.2.1 = some (tyX2 k) := by decide +kernel
abbrev cX2_init : ByteArray := prog_4_method_1_code
def yX2_init : MethodName := ⟨RX2, "<init>", "(LUnderTheRope$Cut;LUnderTheRope$Rules;)V"⟩
abbrev cX2_run : ByteArray := prog_4_method_2_code
def yX2_run : MethodName := ⟨RX2, "run", "(LUnderTheRope$Plan;II)I"⟩
abbrev cX2_begin : ByteArray := prog_4_method_3_code
def yX2_begin : MethodName := ⟨RX2, "begin", "(LUnderTheRope$Plan;)V"⟩
abbrev cX2_goOn : ByteArray := prog_4_method_4_code
def yX2_goOn : MethodName := ⟨RX2, "goOn", "()V"⟩
abbrev cX2_meetAll : ByteArray := prog_4_method_5_code
def yX2_meetAll : MethodName := ⟨RX2, "meetAll", "(LUnderTheRope$Plan;II)V"⟩
abbrev cX2_doMeet : ByteArray := prog_4_method_6_code
def yX2_doMeet : MethodName := ⟨RX2, "doMeet", "(II)Z"⟩
abbrev cX2_meet : ByteArray := prog_4_method_7_code
def yX2_meet : MethodName := ⟨RX2, "meet", "(LUnderTheRope$Plan;IIII)V"⟩
abbrev cX2_makeStand : ByteArray := prog_4_method_8_code
def yX2_makeStand : MethodName := ⟨RX2, "makeStand", "(II)V"⟩
abbrev cX2_noteMeeting : ByteArray := prog_4_method_9_code
def yX2_noteMeeting : MethodName := ⟨RX2, "noteMeeting", "(IIII)V"⟩
abbrev cX2_arrive : ByteArray := prog_4_method_10_code
def yX2_arrive : MethodName := ⟨RX2, "arrive", "(I)V"⟩
abbrev cX2_isAtEnd : ByteArray := prog_4_method_11_code
def yX2_isAtEnd : MethodName := ⟨RX2, "isAtEnd", "(I)Z"⟩
def RX3 : String := "UnderTheRope$Plan"
def TX3 : u_T := fun k => match k with
  | 0 => ("UnderTheRope$Plan", "loads", "[I", true)
  | _ => ("UnderTheRope$Plan", "delays", "[I", true)
def tyX3 : Nat → FieldType := fun k => match k with
  | 0 => .array .int
  | _ => .array .int
abbrev wsX30 : List Cond := u_ws RX3 TX3 2
theorem nmX3 : ∀ a, a < 2 → ∀ b, b < 2 → a ≠ b → (TX3 a).2.1 ≠ (TX3 b).2.1 := by decide +kernel
theorem tyX3_ok : ∀ k, k < 2 → parseFieldDescriptor (TX3 k).2.2.1 = some (tyX3 k) := by decide +kernel
abbrev cX3_init : ByteArray := prog_5_method_1_code
def yX3_init : MethodName := ⟨RX3, "<init>", "()V"⟩
abbrev cX3_begin : ByteArray := prog_5_method_2_code
def yX3_begin : MethodName := ⟨RX3, "begin", "(LUnderTheRope$Cut;)V"⟩
abbrev cX3_copy : ByteArray := prog_5_method_3_code
def yX3_copy : MethodName := ⟨RX3, "copy", "(LUnderTheRope$Plan;)V"⟩
abbrev cX3_draw : ByteArray := prog_5_method_4_code
def yX3_draw : MethodName := ⟨RX3, "draw", "(I)V"⟩
def RX4 : String := "UnderTheRope$Reader"
def TX4 : u_T := fun k => match k with
  | 0 => ("UnderTheRope$Reader", "text", "LUnderTheRope$Text;", true)
  | 1 => ("UnderTheRope$Reader", "cut", "LUnderTheRope$Cut;", true)
  | _ => ("UnderTheRope$Reader", "numbers", "[I", true)
def tyX4 : Nat → FieldType := fun k => match k with
  | 0 => .object "UnderTheRope$Text"
  | 1 => .object "UnderTheRope$Cut"
  | _ => .array .int
abbrev wsX40 : List Cond := u_ws RX4 TX4 3
theorem nmX4 : ∀ a, a < 3 → ∀ b, b < 3 → a ≠ b → (TX4 a).2.1 ≠ (TX4 b).2.1 := by decide +kernel
theorem tyX4_ok : ∀ k, k < 3 → parseFieldDescriptor (TX4 k).2.2.1 = some (tyX4 k) := by decide +kernel
abbrev cX4_init : ByteArray := prog_6_method_1_code
def yX4_init : MethodName := ⟨RX4, "<init>", "(LUnderTheRope$Text;LUnderTheRope$Cut;)V"⟩
abbrev cX4_firstFault : ByteArray := prog_6_method_2_code
def yX4_firstFault : MethodName := ⟨RX4, "firstFault", "()I"⟩
abbrev cX4_readItem : ByteArray := prog_6_method_3_code
def yX4_readItem : MethodName := ⟨RX4, "readItem", "(I)I"⟩
abbrev cX4_numbersOf : ByteArray := prog_6_method_4_code
def yX4_numbersOf : MethodName := ⟨RX4, "numbersOf", "(I)I"⟩
abbrev cX4_readNumber : ByteArray := prog_6_method_5_code
def yX4_readNumber : MethodName := ⟨RX4, "readNumber", "(III)I"⟩
abbrev cX4_figureAt : ByteArray := prog_6_method_6_code
def yX4_figureAt : MethodName := ⟨RX4, "figureAt", "(I)I"⟩
abbrev cX4_takeItem : ByteArray := prog_6_method_7_code
def yX4_takeItem : MethodName := ⟨RX4, "takeItem", "(I)Z"⟩
abbrev cX4_takeBoat : ByteArray := prog_6_method_8_code
def yX4_takeBoat : MethodName := ⟨RX4, "takeBoat", "()Z"⟩
abbrev cX4_takeNarrow : ByteArray := prog_6_method_9_code
def yX4_takeNarrow : MethodName := ⟨RX4, "takeNarrow", "()Z"⟩
abbrev cX4_takeYield : ByteArray := prog_6_method_10_code
def yX4_takeYield : MethodName := ⟨RX4, "takeYield", "()Z"⟩
abbrev cX4_takeHeld : ByteArray := prog_6_method_11_code
def yX4_takeHeld : MethodName := ⟨RX4, "takeHeld", "()Z"⟩
abbrev cX4_takeLine : ByteArray := prog_6_method_12_code
def yX4_takeLine : MethodName := ⟨RX4, "takeLine", "()Z"⟩
def RX5 : String := "UnderTheRope$Rules"
def TX5 : u_T := fun k => match k with
  | _ => ("UnderTheRope$Rules", "cut", "LUnderTheRope$Cut;", true)
def tyX5 : Nat → FieldType := fun k => match k with
  | _ => .object "UnderTheRope$Cut"
abbrev wsX50 : List Cond := u_ws RX5 TX5 1
theorem nmX5 : ∀ a, a < 1 → ∀ b, b < 1 → a ≠ b → (TX5 a).2.1 ≠ (TX5 b).2.1 := by decide +kernel
theorem tyX5_ok : ∀ k, k < 1 → parseFieldDescriptor (TX5 k).2.2.1 = some (tyX5 k) := by decide +kernel
abbrev cX5_init : ByteArray := prog_7_method_1_code
def yX5_init : MethodName := ⟨RX5, "<init>", "(LUnderTheRope$Cut;)V"⟩
abbrev cX5_yielder : ByteArray := prog_7_method_2_code
def yX5_yielder : MethodName := ⟨RX5, "yielder", "(LUnderTheRope$Plan;III)I"⟩
abbrev cX5_weight : ByteArray := prog_7_method_3_code
def yX5_weight : MethodName := ⟨RX5, "weight", "(LUnderTheRope$Plan;II)I"⟩
abbrev cX5_byCustom : ByteArray := prog_7_method_4_code
def yX5_byCustom : MethodName := ⟨RX5, "byCustom", "(LUnderTheRope$Plan;II)I"⟩
def RX6 : String := "UnderTheRope$Sightings"
def TX6 : u_T := fun k => match k with
  | 0 => ("UnderTheRope$Sightings", "yielder", "[I", true)
  | 1 => ("UnderTheRope$Sightings", "other", "[I", true)
  | _ => ("UnderTheRope$Sightings", "size", "I", false)
def tyX6 : Nat → FieldType := fun k => match k with
  | 0 => .array .int
  | 1 => .array .int
  | _ => .int
abbrev wsX60 : List Cond := u_ws RX6 TX6 3
theorem nmX6 : ∀ a, a < 3 → ∀ b, b < 3 → a ≠ b → (TX6 a).2.1 ≠ (TX6 b).2.1 := by decide +kernel
theorem tyX6_ok : ∀ k, k < 3 → parseFieldDescriptor (TX6 k).2.2.1 = some (tyX6 k) := by decide +kernel
abbrev cX6_init : ByteArray := prog_8_method_1_code
def yX6_init : MethodName := ⟨RX6, "<init>", "()V"⟩
abbrev cX6_add : ByteArray := prog_8_method_2_code
def yX6_add : MethodName := ⟨RX6, "add", "(II)Z"⟩
abbrev cX6_empty : ByteArray := prog_8_method_3_code
def yX6_empty : MethodName := ⟨RX6, "empty", "()I"⟩
def RX7 : String := "UnderTheRope$Store"
def TX7 : u_T := fun k => match k with
  | 0 => ("UnderTheRope$Store", "loads", "[I", true)
  | 1 => ("UnderTheRope$Store", "delays", "[I", true)
  | _ => ("UnderTheRope$Store", "size", "I", false)
def tyX7 : Nat → FieldType := fun k => match k with
  | 0 => .array .int
  | 1 => .array .int
  | _ => .int
abbrev wsX70 : List Cond := u_ws RX7 TX7 3
theorem nmX7 : ∀ a, a < 3 → ∀ b, b < 3 → a ≠ b → (TX7 a).2.1 ≠ (TX7 b).2.1 := by decide +kernel
theorem tyX7_ok : ∀ k, k < 3 → parseFieldDescriptor (TX7 k).2.2.1 = some (tyX7 k) := by decide +kernel
abbrev cX7_init : ByteArray := prog_9_method_1_code
def yX7_init : MethodName := ⟨RX7, "<init>", "()V"⟩
abbrev cX7_add : ByteArray := prog_9_method_2_code
def yX7_add : MethodName := ⟨RX7, "add", "(LUnderTheRope$Plan;)Z"⟩
abbrev cX7_takeLast : ByteArray := prog_9_method_3_code
def yX7_takeLast : MethodName := ⟨RX7, "takeLast", "(LUnderTheRope$Plan;)Z"⟩
def RX8 : String := "UnderTheRope$Text"
def TX8 : u_T := fun k => match k with
  | 0 => ("UnderTheRope$Text", "letters", "[I", true)
  | _ => ("UnderTheRope$Text", "length", "I", false)
def tyX8 : Nat → FieldType := fun k => match k with
  | 0 => .array .int
  | _ => .int
abbrev wsX80 : List Cond := u_ws RX8 TX8 2
theorem nmX8 : ∀ a, a < 2 → ∀ b, b < 2 → a ≠ b → (TX8 a).2.1 ≠ (TX8 b).2.1 := by decide +kernel
theorem tyX8_ok : ∀ k, k < 2 → parseFieldDescriptor (TX8 k).2.2.1 = some (tyX8 k) := by decide +kernel
abbrev cX8_init : ByteArray := prog_10_method_1_code
def yX8_init : MethodName := ⟨RX8, "<init>", "()V"⟩
abbrev cX8_add : ByteArray := prog_10_method_2_code
def yX8_add : MethodName := ⟨RX8, "add", "(I)Z"⟩
abbrev cX8_empty : ByteArray := prog_10_method_3_code
def yX8_empty : MethodName := ⟨RX8, "empty", "()I"⟩
abbrev cX8_letterAt : ByteArray := prog_10_method_4_code
def yX8_letterAt : MethodName := ⟨RX8, "letterAt", "(I)I"⟩
def RX9 : String := "UnderTheRope"
def TX9 : u_T := fun k => match k with
  | 0 => ("UnderTheRope", "text", "LUnderTheRope$Text;", true)
  | 1 => ("UnderTheRope", "draft", "LUnderTheRope$Cut;", true)
  | 2 => ("UnderTheRope", "reader", "LUnderTheRope$Reader;", true)
  | 3 => ("UnderTheRope", "cut", "LUnderTheRope$Cut;", true)
  | 4 => ("UnderTheRope", "plan", "LUnderTheRope$Plan;", true)
  | 5 => ("UnderTheRope", "trial", "LUnderTheRope$Plan;", true)
  | 6 => ("UnderTheRope", "rules", "LUnderTheRope$Rules;", true)
  | 7 => ("UnderTheRope", "passage", "LUnderTheRope$Passage;", true)
  | 8 => ("UnderTheRope", "changes", "LUnderTheRope$Changes;", true)
  | 9 => ("UnderTheRope", "sightings", "LUnderTheRope$Sightings;", true)
  | _ => ("UnderTheRope", "store", "LUnderTheRope$Store;", true)
def tyX9 : Nat → FieldType := fun k => match k with
  | 0 => .object "UnderTheRope$Text"
  | 1 => .object "UnderTheRope$Cut"
  | 2 => .object "UnderTheRope$Reader"
  | 3 => .object "UnderTheRope$Cut"
  | 4 => .object "UnderTheRope$Plan"
  | 5 => .object "UnderTheRope$Plan"
  | 6 => .object "UnderTheRope$Rules"
  | 7 => .object "UnderTheRope$Passage"
  | 8 => .object "UnderTheRope$Changes"
  | 9 => .object "UnderTheRope$Sightings"
  | _ => .object "UnderTheRope$Store"
abbrev wsX90 : List Cond := u_ws RX9 TX9 11
theorem nmX9 : ∀ a, a < 11 → ∀ b, b < 11 → a ≠ b → (TX9 a).2.1 ≠ (TX9 b).2.1 := by decide +kernel
theorem tyX9_ok : ∀ k, k < 11 → parseFieldDescriptor (TX9 k).2.2.1 = some (tyX9 k) := by decide +kernel
abbrev cX9_init : ByteArray := prog_1_method_1_code
def yX9_init : MethodName := ⟨RX9, "<init>", "()V"⟩
abbrev cX9_write : ByteArray := prog_1_method_2_code
def yX9_write : MethodName := ⟨RX9, "write", "(I)I"⟩
abbrev cX9_wipe : ByteArray := prog_1_method_3_code
def yX9_wipe : MethodName := ⟨RX9, "wipe", "()I"⟩
abbrev cX9_fault : ByteArray := prog_1_method_4_code
def yX9_fault : MethodName := ⟨RX9, "fault", "()I"⟩
abbrev cX9_lay : ByteArray := prog_1_method_5_code
def yX9_lay : MethodName := ⟨RX9, "lay", "()I"⟩
abbrev cX9_boat : ByteArray := prog_1_method_6_code
def yX9_boat : MethodName := ⟨RX9, "boat", "(II)I"⟩
abbrev cX9_where : ByteArray := prog_1_method_7_code
def yX9_where : MethodName := ⟨RX9, "where", "(III)I"⟩
abbrev cX9_there : ByteArray := prog_1_method_8_code
def yX9_there : MethodName := ⟨RX9, "there", "(II)I"⟩
abbrev cX9_stands : ByteArray := prog_1_method_9_code
def yX9_stands : MethodName := ⟨RX9, "stands", "(II)I"⟩
abbrev cX9_yields : ByteArray := prog_1_method_10_code
def yX9_yields : MethodName := ⟨RX9, "yields", "(II)I"⟩
abbrev cX9_meetings : ByteArray := prog_1_method_11_code
def yX9_meetings : MethodName := ⟨RX9, "meetings", "(I)I"⟩
abbrev cX9_meeting : ByteArray := prog_1_method_12_code
def yX9_meeting : MethodName := ⟨RX9, "meeting", "(III)I"⟩
abbrev cX9_load : ByteArray := prog_1_method_13_code
def yX9_load : MethodName := ⟨RX9, "load", "(II)I"⟩
abbrev cX9_later : ByteArray := prog_1_method_14_code
def yX9_later : MethodName := ⟨RX9, "later", "(II)I"⟩
abbrev cX9_undo : ByteArray := prog_1_method_15_code
def yX9_undo : MethodName := ⟨RX9, "undo", "()I"⟩
abbrev cX9_who : ByteArray := prog_1_method_16_code
def yX9_who : MethodName := ⟨RX9, "who", "(III)I"⟩
abbrev cX9_best : ByteArray := prog_1_method_17_code
def yX9_best : MethodName := ⟨RX9, "best", "(I)I"⟩
abbrev cX9_custom : ByteArray := prog_1_method_18_code
def yX9_custom : MethodName := ⟨RX9, "custom", "()I"⟩
abbrev cX9_send : ByteArray := prog_1_method_19_code
def yX9_send : MethodName := ⟨RX9, "send", "(III)I"⟩
abbrev cX9_swap : ByteArray := prog_1_method_20_code
def yX9_swap : MethodName := ⟨RX9, "swap", "(II)I"⟩
abbrev cX9_fall : ByteArray := prog_1_method_21_code
def yX9_fall : MethodName := ⟨RX9, "fall", "(III)I"⟩
abbrev cX9_caught : ByteArray := prog_1_method_22_code
def yX9_caught : MethodName := ⟨RX9, "caught", "(IIII)I"⟩
abbrev cX9_rests : ByteArray := prog_1_method_23_code
def yX9_rests : MethodName := ⟨RX9, "rests", "(III)I"⟩
abbrev cX9_seen : ByteArray := prog_1_method_24_code
def yX9_seen : MethodName := ⟨RX9, "seen", "(II)I"⟩
abbrev cX9_forget : ByteArray := prog_1_method_25_code
def yX9_forget : MethodName := ⟨RX9, "forget", "()I"⟩
abbrev cX9_fits : ByteArray := prog_1_method_26_code
def yX9_fits : MethodName := ⟨RX9, "fits", "()I"⟩
abbrev cX9_starts : ByteArray := prog_1_method_27_code
def yX9_starts : MethodName := ⟨RX9, "starts", "(II)I"⟩
abbrev cX9_bears : ByteArray := prog_1_method_28_code
def yX9_bears : MethodName := ⟨RX9, "bears", "(II)I"⟩
abbrev cX9_day : ByteArray := prog_1_method_29_code
def yX9_day : MethodName := ⟨RX9, "day", "(III)I"⟩
abbrev cX9_keep : ByteArray := prog_1_method_30_code
def yX9_keep : MethodName := ⟨RX9, "keep", "()I"⟩
abbrev cX9_back : ByteArray := prog_1_method_31_code
def yX9_back : MethodName := ⟨RX9, "back", "()I"⟩
abbrev cX9_count : ByteArray := prog_1_method_32_code
def yX9_count : MethodName := ⟨RX9, "count", "(I)I"⟩
abbrev cX9_isWithin : ByteArray := prog_1_method_33_code
def yX9_isWithin : MethodName := ⟨RX9, "isWithin", "(III)Z"⟩
abbrev cX9_isRule : ByteArray := prog_1_method_34_code
def yX9_isRule : MethodName := ⟨RX9, "isRule", "(I)Z"⟩
abbrev cX9_isBoat : ByteArray := prog_1_method_35_code
def yX9_isBoat : MethodName := ⟨RX9, "isBoat", "(I)Z"⟩
abbrev cX9_areTwo : ByteArray := prog_1_method_36_code
def yX9_areTwo : MethodName := ⟨RX9, "areTwo", "(II)Z"⟩
abbrev cX9_layText : ByteArray := prog_1_method_37_code
def yX9_layText : MethodName := ⟨RX9, "layText", "()Z"⟩
abbrev cX9_leastRule : ByteArray := prog_1_method_38_code
def yX9_leastRule : MethodName := ⟨RX9, "leastRule", "()I"⟩
abbrev cX9_standExchanged : ByteArray := prog_1_method_39_code
def yX9_standExchanged : MethodName := ⟨RX9, "standExchanged", "(III)I"⟩
abbrev cX9_minutesToSink : ByteArray := prog_1_method_40_code
def yX9_minutesToSink : MethodName := ⟨RX9, "minutesToSink", "(I)I"⟩
abbrev cX9_waysToSinkLess : ByteArray := prog_1_method_41_code
def yX9_waysToSinkLess : MethodName := ⟨RX9, "waysToSinkLess", "(III)I"⟩
abbrev cX9_power : ByteArray := prog_1_method_42_code
def yX9_power : MethodName := ⟨RX9, "power", "(II)I"⟩
abbrev cX9_commonDivisor : ByteArray := prog_1_method_43_code
def yX9_commonDivisor : MethodName := ⟨RX9, "commonDivisor", "(II)I"⟩
abbrev cX9_isRest : ByteArray := prog_1_method_44_code
def yX9_isRest : MethodName := ⟨RX9, "isRest", "(III)Z"⟩
abbrev cX9_standChoosing : ByteArray := prog_1_method_45_code
def yX9_standChoosing : MethodName := ⟨RX9, "standChoosing", "(IZZ)I"⟩
abbrev cX9_fitsSightings : ByteArray := prog_1_method_46_code
def yX9_fitsSightings : MethodName := ⟨RX9, "fitsSightings", "(I)Z"⟩
def RX10 : String := "UnderTheRopeModel"
def TX10 : u_T := fun k => match k with
  | 0 => ("UnderTheRopeModel", "length", "I", false)
  | 1 => ("UnderTheRopeModel", "text", "[I", true)
  | 2 => ("UnderTheRopeModel", "boats", "[I", true)
  | 3 => ("UnderTheRopeModel", "cells", "[I", true)
  | 4 => ("UnderTheRopeModel", "ways", "[I", true)
  | 5 => ("UnderTheRopeModel", "paces", "[I", true)
  | 6 => ("UnderTheRopeModel", "loads", "[I", true)
  | 7 => ("UnderTheRopeModel", "kinds", "[I", true)
  | 8 => ("UnderTheRopeModel", "narrows", "[I", true)
  | 9 => ("UnderTheRopeModel", "froms", "[I", true)
  | 10 => ("UnderTheRopeModel", "tos", "[I", true)
  | 11 => ("UnderTheRopeModel", "laws", "[I", true)
  | 12 => ("UnderTheRopeModel", "now", "[I", true)
  | 13 => ("UnderTheRopeModel", "before", "[I", true)
  | 14 => ("UnderTheRopeModel", "undoMany", "I", false)
  | 15 => ("UnderTheRopeModel", "kept", "[I", true)
  | 16 => ("UnderTheRopeModel", "keptMany", "I", false)
  | 17 => ("UnderTheRopeModel", "seenMany", "I", false)
  | 18 => ("UnderTheRopeModel", "seenOne", "[I", true)
  | 19 => ("UnderTheRopeModel", "seenOther", "[I", true)
  | 20 => ("UnderTheRopeModel", "spot", "I", false)
  | 21 => ("UnderTheRopeModel", "told", "[I", true)
  | 22 => ("UnderTheRopeModel", "places", "[I", true)
  | 23 => ("UnderTheRopeModel", "left", "[I", true)
  | 24 => ("UnderTheRopeModel", "thereAt", "[I", true)
  | 25 => ("UnderTheRopeModel", "added", "[I", true)
  | 26 => ("UnderTheRopeModel", "gave", "[I", true)
  | 27 => ("UnderTheRopeModel", "begun", "[I", true)
  | 28 => ("UnderTheRopeModel", "meets", "I", false)
  | 29 => ("UnderTheRopeModel", "meetMinute", "[I", true)
  | 30 => ("UnderTheRopeModel", "meetTwo", "[I", true)
  | 31 => ("UnderTheRopeModel", "meetWho", "[I", true)
  | 32 => ("UnderTheRopeModel", "meetWhere", "[I", true)
  | _ => ("UnderTheRopeModel", "was", "[I", true)
def tyX10 : Nat → FieldType := fun k => match k with
  | 0 => .int
  | 1 => .array .int
  | 2 => .array .int
  | 3 => .array .int
  | 4 => .array .int
  | 5 => .array .int
  | 6 => .array .int
  | 7 => .array .int
  | 8 => .array .int
  | 9 => .array .int
  | 10 => .array .int
  | 11 => .array .int
  | 12 => .array .int
  | 13 => .array .int
  | 14 => .int
  | 15 => .array .int
  | 16 => .int
  | 17 => .int
  | 18 => .array .int
  | 19 => .array .int
  | 20 => .int
  | 21 => .array .int
  | 22 => .array .int
  | 23 => .array .int
  | 24 => .array .int
  | 25 => .array .int
  | 26 => .array .int
  | 27 => .array .int
  | 28 => .int
  | 29 => .array .int
  | 30 => .array .int
  | 31 => .array .int
  | 32 => .array .int
  | _ => .array .int
abbrev wsX100 : List Cond := u_ws RX10 TX10 34
theorem nmX10 : ∀ a, a < 34 → ∀ b, b < 34 → a ≠ b → (TX10 a).2.1 ≠ (TX10 b).2.1 := by decide +kernel
theorem tyX10_ok : ∀ k, k < 34 → parseFieldDescriptor (TX10 k).2.2.1 = some (tyX10 k) := by decide +kernel
abbrev cX10_init : ByteArray := prog_12_method_1_code
def yX10_init : MethodName := ⟨RX10, "<init>", "()V"⟩
abbrev cX10_in : ByteArray := prog_12_method_2_code
def yX10_in : MethodName := ⟨RX10, "in", "(JJJ)Z"⟩
abbrev cX10_noCut : ByteArray := prog_12_method_3_code
def yX10_noCut : MethodName := ⟨RX10, "noCut", "(I)V"⟩
abbrev cX10_addBoat : ByteArray := prog_12_method_4_code
def yX10_addBoat : MethodName := ⟨RX10, "addBoat", "(IIIIII)V"⟩
abbrev cX10_write : ByteArray := prog_12_method_5_code
def yX10_write : MethodName := ⟨RX10, "write", "(I)I"⟩
abbrev cX10_wipe : ByteArray := prog_12_method_6_code
def yX10_wipe : MethodName := ⟨RX10, "wipe", "()I"⟩
abbrev cX10_letterAt : ByteArray := prog_12_method_7_code
def yX10_letterAt : MethodName := ⟨RX10, "letterAt", "(I)I"⟩
abbrev cX10_figures : ByteArray := prog_12_method_8_code
def yX10_figures : MethodName := ⟨RX10, "figures", "(I)Z"⟩
abbrev cX10_boatItem : ByteArray := prog_12_method_9_code
def yX10_boatItem : MethodName := ⟨RX10, "boatItem", "()Z"⟩
abbrev cX10_narrowItem : ByteArray := prog_12_method_10_code
def yX10_narrowItem : MethodName := ⟨RX10, "narrowItem", "()Z"⟩
abbrev cX10_setLaw : ByteArray := prog_12_method_11_code
def yX10_setLaw : MethodName := ⟨RX10, "setLaw", "(III)Z"⟩
abbrev cX10_item : ByteArray := prog_12_method_12_code
def yX10_item : MethodName := ⟨RX10, "item", "()Z"⟩
abbrev cX10_readAll : ByteArray := prog_12_method_13_code
def yX10_readAll : MethodName := ⟨RX10, "readAll", "()I"⟩
abbrev cX10_fault : ByteArray := prog_12_method_14_code
def yX10_fault : MethodName := ⟨RX10, "fault", "()I"⟩
abbrev cX10_lay : ByteArray := prog_12_method_15_code
def yX10_lay : MethodName := ⟨RX10, "lay", "()I"⟩
abbrev cX10_begin : ByteArray := prog_12_method_16_code
def yX10_begin : MethodName := ⟨RX10, "begin", "()V"⟩
abbrev cX10_isBoat : ByteArray := prog_12_method_17_code
def yX10_isBoat : MethodName := ⟨RX10, "isBoat", "(I)Z"⟩
abbrev cX10_areTwo : ByteArray := prog_12_method_18_code
def yX10_areTwo : MethodName := ⟨RX10, "areTwo", "(II)Z"⟩
abbrev cX10_isRule : ByteArray := prog_12_method_19_code
def yX10_isRule : MethodName := ⟨RX10, "isRule", "(I)Z"⟩
abbrev cX10_boat : ByteArray := prog_12_method_20_code
def yX10_boat : MethodName := ⟨RX10, "boat", "(II)I"⟩
abbrev cX10_byCustom : ByteArray := prog_12_method_21_code
def yX10_byCustom : MethodName := ⟨RX10, "byCustom", "(II)I"⟩
abbrev cX10_byLoad : ByteArray := prog_12_method_22_code
def yX10_byLoad : MethodName := ⟨RX10, "byLoad", "(II)I"⟩
abbrev cX10_loss : ByteArray := prog_12_method_23_code
def yX10_loss : MethodName := ⟨RX10, "loss", "(I)I"⟩
abbrev cX10_byRule : ByteArray := prog_12_method_24_code
def yX10_byRule : MethodName := ⟨RX10, "byRule", "(III)I"⟩
abbrev cX10_yielder : ByteArray := prog_12_method_25_code
def yX10_yielder : MethodName := ⟨RX10, "yielder", "(III)I"⟩
abbrev cX10_endOf : ByteArray := prog_12_method_26_code
def yX10_endOf : MethodName := ⟨RX10, "endOf", "(I)I"⟩
abbrev cX10_isNarrow : ByteArray := prog_12_method_27_code
def yX10_isNarrow : MethodName := ⟨RX10, "isNarrow", "(I)Z"⟩
abbrev cX10_standMore : ByteArray := prog_12_method_28_code
def yX10_standMore : MethodName := ⟨RX10, "standMore", "(III)V"⟩
abbrev cX10_meet : ByteArray := prog_12_method_29_code
def yX10_meet : MethodName := ⟨RX10, "meet", "(IIII)V"⟩
abbrev cX10_doMeet : ByteArray := prog_12_method_30_code
def yX10_doMeet : MethodName := ⟨RX10, "doMeet", "(III)Z"⟩
abbrev cX10_goMinute : ByteArray := prog_12_method_31_code
def yX10_goMinute : MethodName := ⟨RX10, "goMinute", "(II)V"⟩
abbrev cX10_goDay : ByteArray := prog_12_method_32_code
def yX10_goDay : MethodName := ⟨RX10, "goDay", "(I)I"⟩
abbrev cX10_where : ByteArray := prog_12_method_33_code
def yX10_where : MethodName := ⟨RX10, "where", "(III)I"⟩
abbrev cX10_there : ByteArray := prog_12_method_34_code
def yX10_there : MethodName := ⟨RX10, "there", "(II)I"⟩
abbrev cX10_stands : ByteArray := prog_12_method_35_code
def yX10_stands : MethodName := ⟨RX10, "stands", "(II)I"⟩
abbrev cX10_yields : ByteArray := prog_12_method_36_code
def yX10_yields : MethodName := ⟨RX10, "yields", "(II)I"⟩
abbrev cX10_meetings : ByteArray := prog_12_method_37_code
def yX10_meetings : MethodName := ⟨RX10, "meetings", "(I)I"⟩
abbrev cX10_meeting : ByteArray := prog_12_method_38_code
def yX10_meeting : MethodName := ⟨RX10, "meeting", "(III)I"⟩
abbrev cX10_note : ByteArray := prog_12_method_39_code
def yX10_note : MethodName := ⟨RX10, "note", "()V"⟩
abbrev cX10_load : ByteArray := prog_12_method_40_code
def yX10_load : MethodName := ⟨RX10, "load", "(II)I"⟩
abbrev cX10_later : ByteArray := prog_12_method_41_code
def yX10_later : MethodName := ⟨RX10, "later", "(II)I"⟩
abbrev cX10_undo : ByteArray := prog_12_method_42_code
def yX10_undo : MethodName := ⟨RX10, "undo", "()I"⟩
abbrev cX10_who : ByteArray := prog_12_method_43_code
def yX10_who : MethodName := ⟨RX10, "who", "(III)I"⟩
abbrev cX10_best : ByteArray := prog_12_method_44_code
def yX10_best : MethodName := ⟨RX10, "best", "(I)I"⟩
abbrev cX10_custom : ByteArray := prog_12_method_45_code
def yX10_custom : MethodName := ⟨RX10, "custom", "()I"⟩
abbrev cX10_send : ByteArray := prog_12_method_46_code
def yX10_send : MethodName := ⟨RX10, "send", "(III)I"⟩
abbrev cX10_change : ByteArray := prog_12_method_47_code
def yX10_change : MethodName := ⟨RX10, "change", "(II)V"⟩
abbrev cX10_swap : ByteArray := prog_12_method_48_code
def yX10_swap : MethodName := ⟨RX10, "swap", "(II)I"⟩
abbrev cX10_sinksIn : ByteArray := prog_12_method_49_code
def yX10_sinksIn : MethodName := ⟨RX10, "sinksIn", "(I)I"⟩
abbrev cX10_fall : ByteArray := prog_12_method_50_code
def yX10_fall : MethodName := ⟨RX10, "fall", "(III)I"⟩
abbrev cX10_common : ByteArray := prog_12_method_51_code
def yX10_common : MethodName := ⟨RX10, "common", "(II)I"⟩
abbrev cX10_caught : ByteArray := prog_12_method_52_code
def yX10_caught : MethodName := ⟨RX10, "caught", "(IIII)I"⟩
abbrev cX10_standsBy : ByteArray := prog_12_method_53_code
def yX10_standsBy : MethodName := ⟨RX10, "standsBy", "(IZZ)I"⟩
abbrev cX10_rests : ByteArray := prog_12_method_54_code
def yX10_rests : MethodName := ⟨RX10, "rests", "(III)I"⟩
abbrev cX10_seen : ByteArray := prog_12_method_55_code
def yX10_seen : MethodName := ⟨RX10, "seen", "(II)I"⟩
abbrev cX10_forget : ByteArray := prog_12_method_56_code
def yX10_forget : MethodName := ⟨RX10, "forget", "()I"⟩
abbrev cX10_fits : ByteArray := prog_12_method_57_code
def yX10_fits : MethodName := ⟨RX10, "fits", "()I"⟩
abbrev cX10_starts : ByteArray := prog_12_method_58_code
def yX10_starts : MethodName := ⟨RX10, "starts", "(II)I"⟩
abbrev cX10_bears : ByteArray := prog_12_method_59_code
def yX10_bears : MethodName := ⟨RX10, "bears", "(II)I"⟩
abbrev cX10_day : ByteArray := prog_12_method_60_code
def yX10_day : MethodName := ⟨RX10, "day", "(III)I"⟩
abbrev cX10_keep : ByteArray := prog_12_method_61_code
def yX10_keep : MethodName := ⟨RX10, "keep", "()I"⟩
abbrev cX10_back : ByteArray := prog_12_method_62_code
def yX10_back : MethodName := ⟨RX10, "back", "()I"⟩
abbrev cX10_count : ByteArray := prog_12_method_63_code
def yX10_count : MethodName := ⟨RX10, "count", "(I)I"⟩
def RJ9 : String := "java/lang/Math"
abbrev cJ9_max_7cf53 : ByteArray := prog_13_method_65_code
def yJ9_max_7cf53 : MethodName := ⟨RJ9, "max", "(II)I"⟩
abbrev cJ9_min_7cf53 : ByteArray := prog_13_method_69_code
def yJ9_min_7cf53 : MethodName := ⟨RJ9, "min", "(II)I"⟩
def RJ0 : String := "java/lang/String"
abbrev cJ0_length_8abf5 : ByteArray := prog_14_method_54_code
def yJ0_length_8abf5 : MethodName := ⟨RJ0, "length", "()I"⟩
abbrev cJ0_charAt_5068e : ByteArray := prog_14_method_56_code
def yJ0_charAt_5068e : MethodName := ⟨RJ0, "charAt", "(I)C"⟩
abbrev cJ0_coder_7d493 : ByteArray := prog_14_method_152_code
def yJ0_coder_7d493 : MethodName := ⟨RJ0, "coder", "()B"⟩
abbrev cJ0_isLatin1_aae02 : ByteArray := prog_14_method_154_code
def yJ0_isLatin1_aae02 : MethodName := ⟨RJ0, "isLatin1", "()Z"⟩
abbrev cJ0_checkIndex_df160 : ByteArray := prog_14_method_155_code
def yJ0_checkIndex_df160 : MethodName := ⟨RJ0, "checkIndex", "(II)V"⟩
def RJ1 : String := "java/lang/StringLatin1"
abbrev cJ1_charAt_3b067 : ByteArray := prog_15_method_2_code
def yJ1_charAt_3b067 : MethodName := ⟨RJ1, "charAt", "([BI)C"⟩
def RJ2 : String := "java/lang/StringUTF16"
abbrev cJ2_getChar_3b067 : ByteArray := prog_16_method_5_code
def yJ2_getChar_3b067 : MethodName := ⟨RJ2, "getChar", "([BI)C"⟩
abbrev cJ2_length_9d52b : ByteArray := prog_16_method_6_code
def yJ2_length_9d52b : MethodName := ⟨RJ2, "length", "([B)I"⟩
abbrev cJ2_charAt_3b067 : ByteArray := prog_16_method_83_code
def yJ2_charAt_3b067 : MethodName := ⟨RJ2, "charAt", "([BI)C"⟩
abbrev cJ2_checkIndex_2214a : ByteArray := prog_16_method_91_code
def yJ2_checkIndex_2214a : MethodName := ⟨RJ2, "checkIndex", "(I[B)V"⟩
def RJ10 : String := "java/lang/System"
def RJ3 : String := "jdk/internal/util/Preconditions"
abbrev cJ3_checkIndex_8e157 : ByteArray := prog_18_method_11_code
def yJ3_checkIndex_8e157 : MethodName := ⟨RJ3, "checkIndex", "(IILjava/util/function/BiFunction;)I"⟩
def RL : String := "UnderTheRopeLaw"
abbrev cL_law : ByteArray := code
def yL_law : MethodName := ⟨RL, "law", "([I)Z"⟩
abbrev vwCl : List vw_C := [(RX0, TX0, 4), (RX1, TX1, 13), (RX2, TX2, 16), (RX3, TX3, 2), (RX4, TX4, 3), (RX5, TX5, 1), (RX6, TX6, 3), (RX7, TX7, 3), (RX8, TX8, 2), (RX9, TX9, 11), (RX10, TX10, 34)]
/-! the words that every contract asks: the good ones of the tables -/
def WS : List Cond := lw_tbl.filter (fun w => goodWord w)
theorem m_goodWS : GoodIn WS WS := fun _ h => ⟨h, good_of_word (List.mem_filter.mp h).2⟩
theorem m_ts {w : Cond} (i : Nat) (h : (k2_sels lw_privs)[i]? = some w) (hg : goodWord w = true) : w ∈ WS := List.mem_filter.mpr ⟨List.mem_append_left _ (List.mem_of_getElem? h), hg⟩
theorem m_tt {w : Cond} (h : w ∈ tables_1) (hg : goodWord w = true) : w ∈ WS := List.mem_filter.mpr ⟨List.mem_append_right _ h, hg⟩
theorem m_t1 {w : Cond} (i : Nat) (h : tables_1_1[i]? = some w) (hg : goodWord w = true) : w ∈ WS := m_tt (List.mem_append_left _ (List.mem_of_getElem? h)) hg
theorem m_t2 {w : Cond} (i : Nat) (h : tables_1_2[i]? = some w) (hg : goodWord w = true) : w ∈ WS := m_tt (List.mem_append_right _ (List.mem_append_left _ (List.mem_of_getElem? h))) hg
theorem m_t3 {w : Cond} (i : Nat) (h : tables_1_3[i]? = some w) (hg : goodWord w = true) : w ∈ WS := m_tt (List.mem_append_right _ (List.mem_append_right _ (List.mem_append_left _ (List.mem_of_getElem? h)))) hg
theorem m_t4 {w : Cond} (i : Nat) (h : tables_1_4[i]? = some w) (hg : goodWord w = true) : w ∈ WS := m_tt (List.mem_append_right _ (List.mem_append_right _ (List.mem_append_right _ (List.mem_append_left _ (List.mem_of_getElem? h))))) hg
theorem m_t5 {w : Cond} (i : Nat) (h : tables_1_5[i]? = some w) (hg : goodWord w = true) : w ∈ WS := m_tt (List.mem_append_right _ (List.mem_append_right _ (List.mem_append_right _ (List.mem_append_right _ (List.mem_of_getElem? h))))) hg
set_option maxRecDepth 20000 in
theorem inX0 : ∀ w ∈ u_ws RX0 TX0 4, w ∈ WS := by
  intro w h
  simp only [u_ws, List.mem_map, List.mem_range] at h
  obtain ⟨k, hk, rfl⟩ := h
  match k, hk with
  | 0, _ => exact m_t2 6 rfl rfl
  | 1, _ => exact m_t2 8 rfl rfl
  | 2, _ => exact m_t2 10 rfl rfl
  | 3, _ => exact m_t2 12 rfl rfl
  | k + 4, hk => exact absurd hk (by omega)
set_option maxRecDepth 20000 in
theorem inX1 : ∀ w ∈ u_ws RX1 TX1 13, w ∈ WS := by
  intro w h
  simp only [u_ws, List.mem_map, List.mem_range] at h
  obtain ⟨k, hk, rfl⟩ := h
  match k, hk with
  | 0, _ => exact m_t1 95 rfl rfl
  | 1, _ => exact m_t1 97 rfl rfl
  | 2, _ => exact m_t1 99 rfl rfl
  | 3, _ => exact m_t1 101 rfl rfl
  | 4, _ => exact m_t1 103 rfl rfl
  | 5, _ => exact m_t1 105 rfl rfl
  | 6, _ => exact m_t1 107 rfl rfl
  | 7, _ => exact m_t1 109 rfl rfl
  | 8, _ => exact m_t1 111 rfl rfl
  | 9, _ => exact m_t1 113 rfl rfl
  | 10, _ => exact m_t1 115 rfl rfl
  | 11, _ => exact m_t1 117 rfl rfl
  | 12, _ => exact m_t1 119 rfl rfl
  | k + 13, hk => exact absurd hk (by omega)
set_option maxRecDepth 20000 in
theorem inX2 : ∀ w ∈ u_ws RX2 TX2 16, w ∈ WS := by
  intro w h
  simp only [u_ws, List.mem_map, List.mem_range] at h
  obtain ⟨k, hk, rfl⟩ := h
  match k, hk with
  | 0, _ => exact m_t1 202 rfl rfl
  | 1, _ => exact m_t1 204 rfl rfl
  | 2, _ => exact m_t1 206 rfl rfl
  | 3, _ => exact m_t1 208 rfl rfl
  | 4, _ => exact m_t1 210 rfl rfl
  | 5, _ => exact m_t1 212 rfl rfl
  | 6, _ => exact m_t1 214 rfl rfl
  | 7, _ => exact m_t1 216 rfl rfl
  | 8, _ => exact m_t1 218 rfl rfl
  | 9, _ => exact m_t1 220 rfl rfl
  | 10, _ => exact m_t1 222 rfl rfl
  | 11, _ => exact m_t1 224 rfl rfl
  | 12, _ => exact m_t1 226 rfl rfl
  | 13, _ => exact m_t1 228 rfl rfl
  | 14, _ => exact m_t1 230 rfl rfl
  | 15, _ => exact m_t1 232 rfl rfl
  | k + 16, hk => exact absurd hk (by omega)
set_option maxRecDepth 20000 in
theorem inX3 : ∀ w ∈ u_ws RX3 TX3 2, w ∈ WS := by
  intro w h
  simp only [u_ws, List.mem_map, List.mem_range] at h
  obtain ⟨k, hk, rfl⟩ := h
  match k, hk with
  | 0, _ => exact m_t1 155 rfl rfl
  | 1, _ => exact m_t1 157 rfl rfl
  | k + 2, hk => exact absurd hk (by omega)
set_option maxRecDepth 20000 in
theorem inX4 : ∀ w ∈ u_ws RX4 TX4 3, w ∈ WS := by
  intro w h
  simp only [u_ws, List.mem_map, List.mem_range] at h
  obtain ⟨k, hk, rfl⟩ := h
  match k, hk with
  | 0, _ => exact m_t1 131 rfl rfl
  | 1, _ => exact m_t1 133 rfl rfl
  | 2, _ => exact m_t1 135 rfl rfl
  | k + 3, hk => exact absurd hk (by omega)
set_option maxRecDepth 20000 in
theorem inX5 : ∀ w ∈ u_ws RX5 TX5 1, w ∈ WS := by
  intro w h
  simp only [u_ws, List.mem_map, List.mem_range] at h
  obtain ⟨k, hk, rfl⟩ := h
  match k, hk with
  | 0, _ => exact m_t1 167 rfl rfl
  | k + 1, hk => exact absurd hk (by omega)
set_option maxRecDepth 20000 in
theorem inX6 : ∀ w ∈ u_ws RX6 TX6 3, w ∈ WS := by
  intro w h
  simp only [u_ws, List.mem_map, List.mem_range] at h
  obtain ⟨k, hk, rfl⟩ := h
  match k, hk with
  | 0, _ => exact m_t2 28 rfl rfl
  | 1, _ => exact m_t2 30 rfl rfl
  | 2, _ => exact m_t2 32 rfl rfl
  | k + 3, hk => exact absurd hk (by omega)
set_option maxRecDepth 20000 in
theorem inX7 : ∀ w ∈ u_ws RX7 TX7 3, w ∈ WS := by
  intro w h
  simp only [u_ws, List.mem_map, List.mem_range] at h
  obtain ⟨k, hk, rfl⟩ := h
  match k, hk with
  | 0, _ => exact m_t2 45 rfl rfl
  | 1, _ => exact m_t2 47 rfl rfl
  | 2, _ => exact m_t2 49 rfl rfl
  | k + 3, hk => exact absurd hk (by omega)
set_option maxRecDepth 20000 in
theorem inX8 : ∀ w ∈ u_ws RX8 TX8 2, w ∈ WS := by
  intro w h
  simp only [u_ws, List.mem_map, List.mem_range] at h
  obtain ⟨k, hk, rfl⟩ := h
  match k, hk with
  | 0, _ => exact m_t1 36 rfl rfl
  | 1, _ => exact m_t1 38 rfl rfl
  | k + 2, hk => exact absurd hk (by omega)
set_option maxRecDepth 20000 in
theorem inX9 : ∀ w ∈ u_ws RX9 TX9 11, w ∈ WS := by
  intro w h
  simp only [u_ws, List.mem_map, List.mem_range] at h
  obtain ⟨k, hk, rfl⟩ := h
  match k, hk with
  | 0, _ => exact m_t2 193 rfl rfl
  | 1, _ => exact m_t2 195 rfl rfl
  | 2, _ => exact m_t2 197 rfl rfl
  | 3, _ => exact m_t2 199 rfl rfl
  | 4, _ => exact m_t2 201 rfl rfl
  | 5, _ => exact m_t2 203 rfl rfl
  | 6, _ => exact m_t2 205 rfl rfl
  | 7, _ => exact m_t2 207 rfl rfl
  | 8, _ => exact m_t2 209 rfl rfl
  | 9, _ => exact m_t2 211 rfl rfl
  | 10, _ => exact m_t2 213 rfl rfl
  | k + 11, hk => exact absurd hk (by omega)
set_option maxRecDepth 20000 in
theorem inX10 : ∀ w ∈ u_ws RX10 TX10 34, w ∈ WS := by
  intro w h
  simp only [u_ws, List.mem_map, List.mem_range] at h
  obtain ⟨k, hk, rfl⟩ := h
  match k, hk with
  | 0, _ => exact m_t4 62 rfl rfl
  | 1, _ => exact m_t4 64 rfl rfl
  | 2, _ => exact m_t4 66 rfl rfl
  | 3, _ => exact m_t4 68 rfl rfl
  | 4, _ => exact m_t4 70 rfl rfl
  | 5, _ => exact m_t4 72 rfl rfl
  | 6, _ => exact m_t4 74 rfl rfl
  | 7, _ => exact m_t4 76 rfl rfl
  | 8, _ => exact m_t4 78 rfl rfl
  | 9, _ => exact m_t4 80 rfl rfl
  | 10, _ => exact m_t4 82 rfl rfl
  | 11, _ => exact m_t4 84 rfl rfl
  | 12, _ => exact m_t4 86 rfl rfl
  | 13, _ => exact m_t4 88 rfl rfl
  | 14, _ => exact m_t4 90 rfl rfl
  | 15, _ => exact m_t4 92 rfl rfl
  | 16, _ => exact m_t4 94 rfl rfl
  | 17, _ => exact m_t4 96 rfl rfl
  | 18, _ => exact m_t4 98 rfl rfl
  | 19, _ => exact m_t4 100 rfl rfl
  | 20, _ => exact m_t4 102 rfl rfl
  | 21, _ => exact m_t4 104 rfl rfl
  | 22, _ => exact m_t4 106 rfl rfl
  | 23, _ => exact m_t4 108 rfl rfl
  | 24, _ => exact m_t4 110 rfl rfl
  | 25, _ => exact m_t4 112 rfl rfl
  | 26, _ => exact m_t4 114 rfl rfl
  | 27, _ => exact m_t4 116 rfl rfl
  | 28, _ => exact m_t4 118 rfl rfl
  | 29, _ => exact m_t4 120 rfl rfl
  | 30, _ => exact m_t4 122 rfl rfl
  | 31, _ => exact m_t4 124 rfl rfl
  | 32, _ => exact m_t4 126 rfl rfl
  | 33, _ => exact m_t4 128 rfl rfl
  | k + 34, hk => exact absurd hk (by omega)
end
section
/-! memories: of each cell a row of ints; the pure words of the walks -/
abbrev Mm : Type := Nat → Nat → Int32
def m_ix (i : Int32) : Nat := i.toNatClampNeg
def m_st (c : Mm) (a j : Nat) (x : Int32) : Mm := fun b => if b = a then upd (c a) j x else c b
def m_cp (c : Mm) (a sp b dp n : Nat) : Mm := fun z => if z = b then va_cpy (c a) (c b) sp dp n else c z
def m_bnd {α β : Type} (v : α) (k : α → β) : β := k v
def m_cal {β : Type} (o : Option (Int32 × Mm)) (k : Int32 → Mm → Option β) : Option β := match o with
  | some x => k x.1 x.2
  | none => none
def m_cav {β : Type} (o : Option Mm) (k : Mm → Option β) : Option β := match o with
  | some x => k x
  | none => none
def m_gi {β : Type} (i : Int32) (n : Nat) (k : Option β) : Option β := if i < 0 ∨ n ≤ m_ix i then none else k
def m_gz {β : Type} (y : Int32) (k : Option β) : Option β := if y = 0 then none else k
def m_gy {β : Type} (y : Int64) (k : Option β) : Option β := if y = 0 then none else k
def m_gb {β : Type} (v : Int32) (k : Option β) : Option β := if v = 0 ∨ v = 1 then k else none
def m_gc {β : Type} (sp dp n : Int32) (n0 n1 : Nat) (k : Option β) : Option β := if sp < 0 ∨ dp < 0 ∨ n < 0 ∨ n0 < m_ix sp + m_ix n ∨ n1 < m_ix dp + m_ix n then none else k
def m_lp0 {β : Type} (F : (Mm → Option β) → Mm → Option β) : Nat → Mm → Option β
  | 0, _ => none
  | n + 1, c => F (m_lp0 F n) c
def m_lp1 {β : Type} (F : (Int32 → Mm → Option β) → Int32 → Mm → Option β) : Nat → Int32 → Mm → Option β
  | 0, _, _ => none
  | n + 1, a, c => F (m_lp1 F n) a c
def m_lp2 {β : Type} (F : (Int32 → Int32 → Mm → Option β) → Int32 → Int32 → Mm → Option β) : Nat → Int32 → Int32 → Mm → Option β
  | 0, _, _, _ => none
  | n + 1, a, b, c => F (m_lp2 F n) a b c
def m_lp3 {β : Type} (F : (Int32 → Int32 → Int32 → Mm → Option β) → Int32 → Int32 → Int32 → Mm → Option β) : Nat → Int32 → Int32 → Int32 → Mm → Option β
  | 0, _, _, _, _ => none
  | n + 1, a, b, d, c => F (m_lp3 F n) a b d c
def m_lp4 {β : Type} (F : (Int32 → Int32 → Int32 → Int32 → Mm → Option β) → Int32 → Int32 → Int32 → Int32 → Mm → Option β) : Nat → Int32 → Int32 → Int32 → Int32 → Mm → Option β
  | 0, _, _, _, _, _ => none
  | n + 1, a, b, d, f, c => F (m_lp4 F n) a b d f c
theorem m_lp0_i {β : Type} {R : β} {F : (Mm → Option β) → Mm → Option β} {G : Mm → Prop} (hs : ∀ r, (∀ c, r c = some R → G c) → ∀ c, F r c = some R → G c) : ∀ n c, m_lp0 F n c = some R → G c
  | 0, _, h => by cases h
  | n + 1, c, h => hs (m_lp0 F n) (m_lp0_i hs n) c h
theorem m_lp1_i {β : Type} {R : β} {F : (Int32 → Mm → Option β) → Int32 → Mm → Option β} {G : Int32 → Mm → Prop} (hs : ∀ r, (∀ a c, r a c = some R → G a c) → ∀ a c, F r a c = some R → G a c) : ∀ n a c, m_lp1 F n a c = some R → G a c
  | 0, _, _, h => by cases h
  | n + 1, a, c, h => hs (m_lp1 F n) (m_lp1_i hs n) a c h
theorem m_lp2_i {β : Type} {R : β} {F : (Int32 → Int32 → Mm → Option β) → Int32 → Int32 → Mm → Option β} {G : Int32 → Int32 → Mm → Prop} (hs : ∀ r, (∀ a b c, r a b c = some R → G a b c) → ∀ a b c, F r a b c = some R → G a b c) : ∀ n a b c, m_lp2 F n a b c = some R → G a b c
  | 0, _, _, _, h => by cases h
  | n + 1, a, b, c, h => hs (m_lp2 F n) (m_lp2_i hs n) a b c h
theorem m_lp3_i {β : Type} {R : β} {F : (Int32 → Int32 → Int32 → Mm → Option β) → Int32 → Int32 → Int32 → Mm → Option β} {G : Int32 → Int32 → Int32 → Mm → Prop} (hs : ∀ r, (∀ a b d c, r a b d c = some R → G a b d c) → ∀ a b d c, F r a b d c = some R → G a b d c) : ∀ n a b d c, m_lp3 F n a b d c = some R → G a b d c
  | 0, _, _, _, _, h => by cases h
  | n + 1, a, b, d, c, h => hs (m_lp3 F n) (m_lp3_i hs n) a b d c h
theorem m_lp4_i {β : Type} {R : β} {F : (Int32 → Int32 → Int32 → Int32 → Mm → Option β) → Int32 → Int32 → Int32 → Int32 → Mm → Option β} {G : Int32 → Int32 → Int32 → Int32 → Mm → Prop} (hs : ∀ r, (∀ a b d f c, r a b d f c = some R → G a b d f c) → ∀ a b d f c, F r a b d f c = some R → G a b d f c) : ∀ n a b d f c, m_lp4 F n a b d f c = some R → G a b d f c
  | 0, _, _, _, _, _, h => by cases h
  | n + 1, a, b, d, f, c, h => hs (m_lp4 F n) (m_lp4_i hs n) a b d f c h
theorem o_bnd {α β : Type} {v : α} {k : α → Option β} {R : β} (h : m_bnd v k = some R) (y : α) (e : y = v) : k y = some R := by subst e; exact h
theorem o_cal {β : Type} {o : Option (Int32 × Mm)} {k : Int32 → Mm → Option β} {R : β} (h : m_cal o k = some R) : ∃ r c, o = some (r, c) ∧ k r c = some R := by
  cases o with
  | none => cases h
  | some x => exact ⟨x.1, x.2, rfl, h⟩
theorem o_cav {β : Type} {o : Option Mm} {k : Mm → Option β} {R : β} (h : m_cav o k = some R) : ∃ c, o = some c ∧ k c = some R := by
  cases o with
  | none => cases h
  | some x => exact ⟨x, rfl, h⟩
theorem o_t {β : Type} {p : Prop} [Decidable p] {a b : Option β} {R : β} (hp : p) (h : (if p then a else b) = some R) : a = some R := by rw [if_pos hp] at h; exact h
theorem o_f {β : Type} {p : Prop} [Decidable p] {a b : Option β} {R : β} (hp : ¬ p) (h : (if p then a else b) = some R) : b = some R := by rw [if_neg hp] at h; exact h
theorem o_gi {β : Type} {i : Int32} {n : Nat} {k : Option β} {R : β} (h : m_gi i n k = some R) : vp_in i n ∧ k = some R := by
  unfold m_gi at h
  split at h
  · cases h
  · rename_i hn
    exact ⟨hn, h⟩
theorem o_gz {β : Type} {y : Int32} {k : Option β} {R : β} (h : m_gz y k = some R) : ¬ y = 0 ∧ k = some R := by
  unfold m_gz at h
  split at h
  · cases h
  · rename_i hn
    exact ⟨hn, h⟩
theorem o_gy {β : Type} {y : Int64} {k : Option β} {R : β} (h : m_gy y k = some R) : ¬ y = 0 ∧ k = some R := by
  unfold m_gy at h
  split at h
  · cases h
  · rename_i hn
    exact ⟨hn, h⟩
theorem o_gb {β : Type} {v : Int32} {k : Option β} {R : β} (h : m_gb v k = some R) : (v = 0 ∨ v = 1) ∧ k = some R := by
  unfold m_gb at h
  split at h
  · rename_i hn
    exact ⟨hn, h⟩
  · cases h
theorem o_gc {β : Type} {sp dp n : Int32} {n0 n1 : Nat} {k : Option β} {R : β} (h : m_gc sp dp n n0 n1 k = some R) : ¬ (sp < 0 ∨ dp < 0 ∨ n < 0 ∨ n0 < m_ix sp + m_ix n ∨ n1 < m_ix dp + m_ix n) ∧ k = some R := by
  unfold m_gc at h
  split at h
  · cases h
  · rename_i hn
    exact ⟨hn, h⟩
theorem m_st_s {c : Mm} {a j : Nat} {x : Int32} : m_st c a j x a = upd (c a) j x := by unfold m_st; rw [if_pos rfl]
theorem m_st_n {c : Mm} {a b j : Nat} {x : Int32} (h : b ≠ a) : m_st c a j x b = c b := by unfold m_st; rw [if_neg h]
theorem m_cp_s {c : Mm} {a sp b dp n : Nat} : m_cp c a sp b dp n b = va_cpy (c a) (c b) sp dp n := by unfold m_cp; rw [if_pos rfl]
theorem m_cp_n {c : Mm} {a sp b dp n z : Nat} (h : z ≠ b) : m_cp c a sp b dp n z = c z := by unfold m_cp; rw [if_neg h]
/-! worlds: n cells at q 0 .. q (n - 1), what each is by its row -/
abbrev m_MK : Type := Nat → (Nat → Int32) → va_E
def m_wO (mk : m_MK) (n : Nat) (q : Nat → Nat) (c : Mm) : va_W := (List.range n).map (fun j => (q j, mk j (c j)))
theorem m_wO_get {mk : m_MK} {n : Nat} {q : Nat → Nat} {c : Mm} {k : Nat} (h : k < n) : (m_wO mk n q c)[k]? = some (q k, mk k (c k)) := by simp [m_wO, h]
theorem m_wO_inv {mk : m_MK} {n : Nat} {q : Nat → Nat} {c : Mm} {k : Nat} {z : Nat × va_E} (h : (m_wO mk n q c)[k]? = some z) : k < n ∧ z = (q k, mk k (c k)) := by
  have hk : k < n := by
    have := (List.getElem?_eq_some_iff.mp h).1
    simpa [m_wO] using this
  rw [m_wO_get hk] at h
  exact ⟨hk, (Option.some.inj h).symm⟩
theorem m_wO_set {mk : m_MK} {n : Nat} {q : Nat → Nat} {c c1 : Mm} {k : Nat} {e : va_E} (h1 : ∀ b, b ≠ k → c1 b = c b) (h2 : mk k (c1 k) = e) : (m_wO mk n q c).set k (q k, e) = m_wO mk n q c1 := by
  apply List.ext_getElem?
  intro j
  by_cases hj : j < n
  · rw [m_wO_get hj]
    by_cases hjk : j = k
    · subst hjk
      rw [List.getElem?_set_self (by simpa [m_wO] using hj), h2]
    · rw [List.getElem?_set_ne (Ne.symm hjk), m_wO_get hj, h1 j hjk]
  · rw [List.getElem?_eq_none (by simp [m_wO]; omega), List.getElem?_eq_none (by simp [m_wO]; omega)]
def m_A (n : Nat) (q : Nat → Nat) (sz : Nat) : Nat → Prop := fun a => (∃ j, j < n ∧ a = q j) ∨ sz ≤ a
theorem m_D_self {mk : m_MK} {n : Nat} {q : Nat → Nat} {c : Mm} {A : Nat → Prop} {sz : Nat} (h : va_D A (m_wO mk n q c)) : va_D (m_A n q sz) (m_wO mk n q c) := ⟨h.1, fun k z hk => by
  obtain ⟨h1, rfl⟩ := m_wO_inv hk
  exact Or.inl ⟨k, h1, rfl⟩⟩
def m_S (D : va_G) (mk : m_MK) (n : Nat) (q : Nat → Nat) (A : Nat → Prop) (H0 : Heap) (c : Mm) (H : Heap) (locs : List Loc) : Prop := va_P D vwCl (m_wO mk n q c) H ∧ va_D A (m_wO mk n q c) ∧ va_S A H0 H locs
def m_nR : Cond := .methodLinkNest RX4 55 yX9_isWithin RX9
def m_nC : Cond := .methodLinkNest RX1 58 yX9_isWithin RX9
def m_K (D : va_G) (cI cZ : ClassId) (U : State) : Prop := va_K D vwCl [(cI, .int), (cZ, .boolean)] U ∧ va_Nw m_nR U ∧ va_Nw m_nC U
theorem m_K.warm {D : va_G} {cI cZ : ClassId} {s U : State} (hW : s.WarmedH U.vm) (h : m_K D cI cZ s) : m_K D cI cZ U := ⟨va_K.moved hW.alike h.1, va_Nw.warmM hW h.2.1, va_Nw.warmM hW h.2.2⟩
theorem m_K.same {D : va_G} {cI cZ : ClassId} {s U : State} (hW : s.vm = U.vm) (h : m_K D cI cZ s) : m_K D cI cZ U := ⟨va_K.moved (by rw [hW]; exact Vm.Alike.refl U.vm) h.1, va_Nw.same rfl hW h.2.1, va_Nw.same rfl hW h.2.2⟩
/-! contracts -/
def m_Pc (D : va_G) (cI cZ : ClassId) (mk : m_MK) (n : Nat) (q : Nat → Nat) (av : List Value) (c : Mm) (sz : Nat) : Array Value → State → Prop := va_Pc av (fun U => U.heap.size = sz ∧ va_P D vwCl (m_wO mk n q c) U.heap ∧ m_K D cI cZ U ∧ va_D (fun _ => True) (m_wO mk n q c))
def m_B (D : va_G) (mk : m_MK) (n : Nat) (q : Nat → Nat) (sz : Nat) (u : Mm) (t : State) : Prop := va_P D vwCl (m_wO mk n q u) t.heap ∧ va_D (m_A n q sz) (m_wO mk n q u)
def m_Qi (D : va_G) (mk : m_MK) (n : Nat) (q : Nat → Nat) (sz : Nat) (R : Int32 × Mm) : Array Value → State → Outcome → State → Prop := va_Qi (fun r (u : Mm) => R = (r, u)) (m_B D mk n q sz) (m_A n q sz)
def m_Qv (D : va_G) (mk : m_MK) (n : Nat) (q : Nat → Nat) (sz : Nat) (R : Mm) : Array Value → State → Outcome → State → Prop := va_Qv (fun (u : Mm) => R = u) (m_B D mk n q sz) (m_A n q sz)
abbrev m_rm (fr lo : Nat) : Room := { frames := fr, cells := 0, slots := 0, locals := lo }
def m_Mi (l : Launch) (y : MethodName) (bytes : ByteArray) (maxL : Nat) (ret : Option FieldType) (fr lo : Nat) (D : va_G) (cI cZ : ClassId) (mk : m_MK) (n : Nat) (q : Nat → Nat) (av : List Value) (c : Mm) (sz : Nat) (R : Int32 × Mm) : Prop := Met l y (Cond.code y bytes maxL ret :: WS) (m_rm fr lo) (m_Pc D cI cZ mk n q av c sz) (m_Qi D mk n q sz R) 0 0 (m_A n q sz)
def m_Mv (l : Launch) (y : MethodName) (bytes : ByteArray) (maxL : Nat) (fr lo : Nat) (D : va_G) (cI cZ : ClassId) (mk : m_MK) (n : Nat) (q : Nat → Nat) (av : List Value) (c : Mm) (sz : Nat) (R : Mm) : Prop := Met l y (Cond.code y bytes maxL none :: WS) (m_rm fr lo) (m_Pc D cI cZ mk n q av c sz) (m_Qv D mk n q sz R) 0 0 (m_A n q sz)
theorem m_blind {D : va_G} {cI cZ : ClassId} {mk : m_MK} {n : Nat} {q : Nat → Nat} {av : List Value} {c : Mm} {sz : Nat} : FrameBlind (m_Pc D cI cZ mk n q av c sz) := by
  intro a U g mk z
  obtain ⟨q0, q1, qP, qK, qD⟩ := z
  exact ⟨q0, q1, qP, m_K.same (s := U) rfl qK, qD⟩
def m_Cx (p : Program) (s : State) (m : MethodId) (args : Array Value) (meth : Method) (cd : Code) (own : String) (cc : ByteArray) (nL : Nat) (ret : Option FieldType) (D : va_G) (cI cZ : ClassId) : Prop := p.tables.exec = Jvm.exec ∧ cd.code = cc ∧ cd.maxLocals = nL ∧ s.vm.findClass own = some m.cls ∧ (∀ w ∈ WS, w.before args s = true) ∧ meth.sig.returnType = ret ∧ meth.locks = false ∧ m_K D cI cZ s
abbrev m_G (p : Program) (l : Launch) (e : Env) (R : Room) (s : State) (m : MethodId) (args : Array Value) (below : List Frame) (meth : Method) (cd : Code) (Q : State → Prop) (D : va_G) (mk : m_MK) (n : Nat) (q : Nat → Nat) (nL pc : Nat) (lv : List (Nat × Value)) (stk : List Value) (c : Mm) : Prop := ∀ (H : Heap) (locs : List Loc) (ls : Array Slot), m_S D mk n q (m_A n q s.heap.size) s.heap c H locs → lv_has ls nL lv → W p l e R s m args below meth cd H locs 0 0 Q (F0 m pc ls stk)
set_option maxHeartbeats 4000000 in
theorem m_enter_i {l : Launch} {y : MethodName} {own : String} {bytes : ByteArray} {maxL : Nat} {ret : Option FieldType} {fr lo : Nat} {D : va_G} {cI cZ : ClassId} {mk : m_MK} {n : Nat} {q : Nat → Nat} {av : List Value} {c : Mm} {sz : Nat} {R : Int32 × Mm} (hy : plainName y.cls = true) (ho : y.cls = own) (hle : (lg_sl av).length ≤ maxL)
    (body : ∀ p e s m below meth cd, m_Cx p s m av.toArray meth cd own bytes maxL ret D cI cZ → m_G p l e (m_rm fr lo) s m av.toArray below meth cd (MQ below (m_Qi D mk n q s.heap.size R) av.toArray s 0 0 (m_A n q s.heap.size)) D mk n q maxL 0 (lv_args 0 av) [] c) : m_Mi l y bytes maxL ret fr lo D cI cZ mk n q av c sz R := by
  refine Met.ofW (cc := bytes) (maxL := maxL) (ret := ret) hy rfl ?_
  intro p e s m args below meth cd s₁ B hml hv
  obtain ⟨rfl, rfl, hP, hK, hD⟩ := hv
  have hts := atoms_spec (ws := Cond.code y bytes maxL ret :: WS) B.pre
  have hown : s.vm.findClass own = some m.cls := by rw [← ho]; exact findClass_of_methodNamed B.named
  have hl := lv_entry av (n := maxL) hle
  rw [lg_entry_eq]
  exact body p e s m below meth cd ⟨B.exec, B.bytes, hml, hown, fun w h => hts w (List.mem_cons_of_mem _ h), B.returns, B.notSynchronized, hK⟩ s.heap [] _ ⟨hP, m_D_self hD, va_S.rf⟩ hl
set_option maxHeartbeats 4000000 in
theorem m_enter_v {l : Launch} {y : MethodName} {own : String} {bytes : ByteArray} {maxL : Nat} {fr lo : Nat} {D : va_G} {cI cZ : ClassId} {mk : m_MK} {n : Nat} {q : Nat → Nat} {av : List Value} {c : Mm} {sz : Nat} {R : Mm} (hy : plainName y.cls = true) (ho : y.cls = own) (hle : (lg_sl av).length ≤ maxL)
    (body : ∀ p e s m below meth cd, m_Cx p s m av.toArray meth cd own bytes maxL none D cI cZ → m_G p l e (m_rm fr lo) s m av.toArray below meth cd (MQ below (m_Qv D mk n q s.heap.size R) av.toArray s 0 0 (m_A n q s.heap.size)) D mk n q maxL 0 (lv_args 0 av) [] c) : m_Mv l y bytes maxL fr lo D cI cZ mk n q av c sz R := by
  refine Met.ofW (cc := bytes) (maxL := maxL) (ret := none) hy rfl ?_
  intro p e s m args below meth cd s₁ B hml hv
  obtain ⟨rfl, rfl, hP, hK, hD⟩ := hv
  have hts := atoms_spec (ws := Cond.code y bytes maxL none :: WS) B.pre
  have hown : s.vm.findClass own = some m.cls := by rw [← ho]; exact findClass_of_methodNamed B.named
  have hl := lv_entry av (n := maxL) hle
  rw [lg_entry_eq]
  exact body p e s m below meth cd ⟨B.exec, B.bytes, hml, hown, fun w h => hts w (List.mem_cons_of_mem _ h), B.returns, B.notSynchronized, hK⟩ s.heap [] _ ⟨hP, m_D_self hD, va_S.rf⟩ hl
end
section
/-! rows over a world: fields, arrays, calls, answers -/
def m_FL (own : String) (idx ci k : Nat) : Prop := ∃ (C : String) (T : u_T) (N : Nat), vwCl[ci]? = some (C, T, N) ∧ k < N ∧ (∀ w ∈ u_ws C T N, w ∈ WS) ∧ Cond.fieldLink own idx (T k).1 (T k).2.1 (T k).2.2.1 ∈ WS
def m_FP (own : String) (idx ci k : Nat) : Prop := ∃ (C : String) (T : u_T) (N : Nat) (ty : Nat → FieldType), vwCl[ci]? = some (C, T, N) ∧ k < N ∧ (∀ w ∈ u_ws C T N, w ∈ WS) ∧ Cond.fieldLink own idx (T k).1 (T k).2.1 (T k).2.2.1 ∈ WS ∧ (∀ k, k < N → parseFieldDescriptor (T k).2.2.1 = some (ty k)) ∧ (∀ a, a < N → ∀ b, b < N → a ≠ b → (T a).2.1 ≠ (T b).2.1) ∧ (T k).2.2.2 = false ∧ ty k = .int
def m_V (mk : m_MK) (n j : Nat) (r : Nat → Int32) (ci k : Nat) (v : Value) : Prop := j < n ∧ ∃ fs, mk j r = .inr (ci, fs) ∧ fs[k]? = some v
def m_VP (mk : m_MK) (n j ci k : Nat) : Prop := j < n ∧ ∀ r, ∃ fs, mk j r = .inr (ci, fs) ∧ k < fs.length ∧ ∀ x, mk j (upd r k x) = .inr (ci, fs.set k (.int x))
def m_O (mk : m_MK) (n j : Nat) (r : Nat → Int32) (C : String) : Prop := j < n ∧ ∃ (ci : Nat) (fs : List Value) (w : vw_C), mk j r = .inr (ci, fs) ∧ vwCl[ci]? = some w ∧ w.1 = C
def m_AI (mk : m_MK) (n a len : Nat) (cI : ClassId) : Prop := a < n ∧ ∀ r, mk a r = .inl (cI, len, .inl r)
section MROWS
variable {p : Program} {l : Launch} {e : Env} {R : Room} {s : State} {m : MethodId} {args : Array Value} {below : List Frame} {meth : Method} {cd : Code} {H : Heap} {locs : List Loc} {cells slots : Nat} {Q : State → Prop}
variable {own : String} {cc : ByteArray} {nL : Nat} {ret : Option FieldType} {D : va_G} {cI cZ : ClassId} {mk : m_MK} {n : Nat} {q : Nat → Nat} {A : Nat → Prop} {H0 : Heap} {c : Mm} {pc : Nat} {ls : Array Slot} {rest : List Value}
theorem m_get (X : m_Cx p s m args meth cd own cc nL ret D cI cZ) (hS : m_S D mk n q A H0 c H locs) {idx ci k j : Nat} {v : Value} (F : m_FL own idx ci k) (V : m_V mk n j (c j) ci k v) (hdg : decode cc pc = .ok (.getfield idx, 3))
    (kk : W p l e R s m args below meth cd H locs cells slots Q (F0 m (pc + 3) ls (v :: rest))) : W p l e R s m args below meth cd H locs cells slots Q (F0 m pc ls (.ref (q j) :: rest)) := by
  obtain ⟨hx, hb, hml, hown, hts, hr, hlk, hK⟩ := X
  obtain ⟨C, T, N, hc, hk, hin, hlink⟩ := F
  obtain ⟨hj, fs, he, hv⟩ := V
  exact va_get hx hb hts hin hown hK.1 hS.1 j (by rw [m_wO_get hj, he]) hc k hk (hts _ hlink) (fun _ h => h) hv hdg kk
theorem m_put (X : m_Cx p s m args meth cd own cc nL ret D cI cZ) (hS : m_S D mk n q A H0 c H locs) {idx ci k j : Nat} {x : Int32} (F : m_FP own idx ci k) (V : m_VP mk n j ci k) (hdg : decode cc pc = .ok (.putfield idx, 3))
    (kk : ∀ c1 : Mm, c1 = m_st c j k x → ∀ (H : Heap) (locs : List Loc), m_S D mk n q A H0 c1 H locs → W p l e R s m args below meth cd H locs cells slots Q (F0 m (pc + 3) ls rest)) : W p l e R s m args below meth cd H locs cells slots Q (F0 m pc ls (.int x :: .ref (q j) :: rest)) := by
  obtain ⟨hx, hb, hml, hown, hts, hr, hlk, hK⟩ := X
  obtain ⟨C, T, N, ty, hc, hk, hin, hlink, hty, hnm, hfin, htk⟩ := F
  obtain ⟨hj, hV⟩ := V
  obtain ⟨fs, he, hl, hst⟩ := hV (c j)
  have hd : parseFieldDescriptor (T k).2.2.1 = some .int := by rw [hty k hk, htk]
  refine va_put hx hb hts hin ty hty hnm hown hK.1 hS.1 hS.2.1 hS.2.2 j (by rw [m_wO_get hj, he]) hc k hk (hts _ hlink) (fun _ h => h) hfin hd (v := .int x) rfl rfl hl hdg (fun H1 locs1 h1 h2 h3 => ?_)
  have e : (m_wO mk n q c).set j (q j, .inr (ci, fs.set k (.int x))) = m_wO mk n q (m_st c j k x) := m_wO_set (fun b hb => m_st_n hb) (by rw [m_st_s, hst])
  rw [e] at h1 h2
  exact kk _ rfl H1 locs1 ⟨h1, h2, h3⟩
theorem m_ild (X : m_Cx p s m args meth cd own cc nL ret D cI cZ) (hS : m_S D mk n q A H0 c H locs) {a len : Nat} {i : Int32} (V : m_AI mk n a len cI) (hin : vp_in i len) (hdg : decode cc pc = .ok (.iaload, 1))
    (kk : W p l e R s m args below meth cd H locs cells slots Q (F0 m (pc + 1) ls (.int (c a (m_ix i)) :: rest))) : W p l e R s m args below meth cd H locs cells slots Q (F0 m pc ls (.int i :: .ref (q a) :: rest)) := by
  obtain ⟨hx, hb, hml, hown, hts, hr, hlk, hK⟩ := X
  exact va_iald hx hb hK.1 hS.1 a 0 (by rw [m_wO_get V.1, V.2]) rfl hin hdg kk
theorem m_ildN (X : m_Cx p s m args meth cd own cc nL ret D cI cZ) (hS : m_S D mk n q A H0 c H locs) {a len : Nat} {i : Int32} (j : Nat) (hj : m_ix i = j) (V : m_AI mk n a len cI) (hin : ¬ (i < 0 ∨ len ≤ m_ix i)) (hdg : decode cc pc = .ok (.iaload, 1))
    (kk : W p l e R s m args below meth cd H locs cells slots Q (F0 m (pc + 1) ls (.int (c a j) :: rest))) : W p l e R s m args below meth cd H locs cells slots Q (F0 m pc ls (.int i :: .ref (q a) :: rest)) := by
  subst hj
  exact m_ild X hS V hin hdg kk
theorem m_ist (X : m_Cx p s m args meth cd own cc nL ret D cI cZ) (hS : m_S D mk n q A H0 c H locs) {a len : Nat} {i x : Int32} (V : m_AI mk n a len cI) (hin : vp_in i len) (hdg : decode cc pc = .ok (.iastore, 1))
    (kk : ∀ c1 : Mm, c1 = m_st c a (m_ix i) x → ∀ (H : Heap) (locs : List Loc), m_S D mk n q A H0 c1 H locs → W p l e R s m args below meth cd H locs cells slots Q (F0 m (pc + 1) ls rest)) : W p l e R s m args below meth cd H locs cells slots Q (F0 m pc ls (.int x :: .int i :: .ref (q a) :: rest)) := by
  obtain ⟨hx, hb, hml, hown, hts, hr, hlk, hK⟩ := X
  refine va_iast hx hb hK.1 hS.1 hS.2.1 hS.2.2 a 0 (by rw [m_wO_get V.1, V.2]) rfl hin hdg (fun H1 locs1 h1 h2 h3 => ?_)
  have e : (m_wO mk n q c).set a (q a, .inl (cI, len, .inl (upd (c a) i.toNatClampNeg x))) = m_wO mk n q (m_st c a (m_ix i) x) := m_wO_set (fun b hb => m_st_n hb) (by rw [m_st_s, V.2]; rfl)
  rw [e] at h1 h2
  exact kk _ rfl H1 locs1 ⟨h1, h2, h3⟩
theorem m_istN (X : m_Cx p s m args meth cd own cc nL ret D cI cZ) (hS : m_S D mk n q A H0 c H locs) {a len : Nat} {i x : Int32} (j : Nat) (hj : m_ix i = j) (V : m_AI mk n a len cI) (hin : ¬ (i < 0 ∨ len ≤ m_ix i)) (hdg : decode cc pc = .ok (.iastore, 1))
    (kk : ∀ c1 : Mm, c1 = m_st c a j x → ∀ (H : Heap) (locs : List Loc), m_S D mk n q A H0 c1 H locs → W p l e R s m args below meth cd H locs cells slots Q (F0 m (pc + 1) ls rest)) : W p l e R s m args below meth cd H locs cells slots Q (F0 m pc ls (.int x :: .int i :: .ref (q a) :: rest)) := by
  subst hj
  exact m_ist X hS V hin hdg kk
theorem m_zld (X : m_Cx p s m args meth cd own cc nL ret D cI cZ) (hS : m_S D mk n q A H0 c H locs) {a len : Nat} {i : Int32} (V : m_AI mk n a len cZ) (hin : vp_in i len) (hdg : decode cc pc = .ok (.baload, 1))
    (kk : W p l e R s m args below meth cd H locs cells slots Q (F0 m (pc + 1) ls (.int (c a (m_ix i)) :: rest))) : W p l e R s m args below meth cd H locs cells slots Q (F0 m pc ls (.int i :: .ref (q a) :: rest)) := by
  obtain ⟨hx, hb, hml, hown, hts, hr, hlk, hK⟩ := X
  exact va_zald hx hb hK.1 hS.1 a 1 (by rw [m_wO_get V.1, V.2]) rfl hin hdg kk
theorem m_zst (X : m_Cx p s m args meth cd own cc nL ret D cI cZ) (hS : m_S D mk n q A H0 c H locs) {a len : Nat} {i x : Int32} (V : m_AI mk n a len cZ) (hin : vp_in i len) (hdg : decode cc pc = .ok (.bastore, 1))
    (kk : ∀ c1 : Mm, c1 = m_st c a (m_ix i) (vp_nar .boolean x) → ∀ (H : Heap) (locs : List Loc), m_S D mk n q A H0 c1 H locs → W p l e R s m args below meth cd H locs cells slots Q (F0 m (pc + 1) ls rest)) : W p l e R s m args below meth cd H locs cells slots Q (F0 m pc ls (.int x :: .int i :: .ref (q a) :: rest)) := by
  obtain ⟨hx, hb, hml, hown, hts, hr, hlk, hK⟩ := X
  refine va_zast hx hb hK.1 hS.1 hS.2.1 hS.2.2 a 1 (by rw [m_wO_get V.1, V.2]) rfl hin hdg (fun H1 locs1 h1 h2 h3 => ?_)
  have e : (m_wO mk n q c).set a (q a, .inl (cZ, len, .inl (upd (c a) i.toNatClampNeg (vp_nar .boolean x)))) = m_wO mk n q (m_st c a (m_ix i) (vp_nar .boolean x)) := m_wO_set (fun b hb => m_st_n hb) (by rw [m_st_s, V.2]; rfl)
  rw [e] at h1 h2
  exact kk _ rfl H1 locs1 ⟨h1, h2, h3⟩
def m_CC (own : String) (idx : Nat) : Prop := Cond.methodLink own idx arraycopyName ∈ WS ∧ Cond.native arraycopyName ∈ WS ∧ Cond.static arraycopyName ∈ WS ∧ Cond.initialized "java/lang/System" ∈ WS
theorem m_copy (X : m_Cx p s m args meth cd own cc nL ret D cI cZ) (hS : m_S D mk n q A H0 c H locs) (hsz : ls.size = nL) {idx a b n0 n1 : Nat} {sp dp k : Int32} (F : m_CC own idx) (V0 : m_AI mk n a n0 cI) (V1 : m_AI mk n b n1 cI) (hg : ¬ (sp < 0 ∨ dp < 0 ∨ k < 0 ∨ n0 < m_ix sp + m_ix k ∨ n1 < m_ix dp + m_ix k)) (hframes : 1 ≤ R.frames) (hlocals : (rest.map fun v => v.category).sum + (nativeFrameWords "java/lang/System" "arraycopy" 5 + 11) ≤ R.locals) (hdg : decode cc pc = .ok (.invokestatic idx, 3))
    (kk : ∀ c1 : Mm, c1 = m_cp c a (m_ix sp) b (m_ix dp) (m_ix k) → ∀ (H : Heap) (locs : List Loc), m_S D mk n q A H0 c1 H locs → W p l e R s m args below meth cd H locs cells slots Q (F0 m (pc + 3) ls rest)) : W p l e R s m args below meth cd H locs cells slots Q (F0 m pc ls (.int k :: .int dp :: .ref (q b) :: .int sp :: .ref (q a) :: rest)) := by
  obtain ⟨hx, hb, hml, hown, hts, hr, hlk, hK⟩ := X
  simp only [not_or, Nat.not_lt] at hg
  refine va_copyi hx hb (hml.trans hsz.symm) hown (hts _ F.1) (hts _ F.2.1) (hts _ F.2.2.1) (hts _ F.2.2.2) hK.1 hS.1 hS.2.1 hS.2.2 a b 0 0 (by rw [m_wO_get V0.1, V0.2]) (by rw [m_wO_get V1.1, V1.2]) rfl rfl rfl hg.1 hg.2.1 hg.2.2.1 hg.2.2.2.1 hg.2.2.2.2 (fun _ _ => rfl) hframes hlocals hdg (fun H1 locs1 h1 h2 h3 => ?_)
  have e : (m_wO mk n q c).set b (q b, .inl (cI, n1, .inl (va_cpy (c a) (c b) sp.toNatClampNeg dp.toNatClampNeg k.toNatClampNeg))) = m_wO mk n q (m_cp c a (m_ix sp) b (m_ix dp) (m_ix k)) := m_wO_set (fun z hz => m_cp_n hz) (by rw [m_cp_s, V1.2]; rfl)
  rw [e] at h1 h2
  exact kk _ rfl H1 locs1 ⟨h1, h2, h3⟩
def m_CM (own : String) (idx : Nat) (y : MethodName) (cy : ByteArray) : Prop := Cond.methodLink own idx y ∈ WS ∧ Cond.static y ∈ WS ∧ Cond.initialized "java/lang/Math" ∈ WS ∧ Cond.code y cy 2 (some .int) ∈ WS
theorem m_max (X : m_Cx p s m args meth cd own cc nL ret D cI cZ) (hsz : ls.size = nL) {idx : Nat} {x y : Int32} (F : m_CM own idx Lib.Math.max.name Lib.Math.max.code) (hframes : 1 ≤ R.frames) (hlocals : (rest.map fun v => v.category).sum + 13 ≤ R.locals) (hc : cells ≤ R.cells) (hs : slots ≤ R.slots) (hdg : decode cc pc = .ok (.invokestatic idx, 3))
    (kk : W p l e R s m args below meth cd H locs cells slots Q (F0 m (pc + 3) ls (.int (if x < y then y else x) :: rest))) : W p l e R s m args below meth cd H locs cells slots Q (F0 m pc ls (.int y :: .int x :: rest)) := by
  obtain ⟨hx, hb, hml, hown, hts, hr, hlk, hK⟩ := X
  exact va_mmax hx hb (hml.trans hsz.symm) hown (hts _ F.1) (hts _ F.2.1) (hts _ F.2.2.1) (hts _ F.2.2.2) hframes hlocals hc hs hdg kk
theorem m_min (X : m_Cx p s m args meth cd own cc nL ret D cI cZ) (hsz : ls.size = nL) {idx : Nat} {x y : Int32} (F : m_CM own idx Lib.Math.min.name Lib.Math.min.code) (hframes : 1 ≤ R.frames) (hlocals : (rest.map fun v => v.category).sum + 13 ≤ R.locals) (hc : cells ≤ R.cells) (hs : slots ≤ R.slots) (hdg : decode cc pc = .ok (.invokestatic idx, 3))
    (kk : W p l e R s m args below meth cd H locs cells slots Q (F0 m (pc + 3) ls (.int (if y < x then y else x) :: rest))) : W p l e R s m args below meth cd H locs cells slots Q (F0 m pc ls (.int y :: .int x :: rest)) := by
  obtain ⟨hx, hb, hml, hown, hts, hr, hlk, hK⟩ := X
  exact va_mmin hx hb (hml.trans hsz.symm) hown (hts _ F.1) (hts _ F.2.1) (hts _ F.2.2.1) (hts _ F.2.2.2) hframes hlocals hc hs hdg kk
/-! calls in one world -/
def m_CV (own : String) (idx : Nat) (C : String) (y : MethodName) (bytes : ByteArray) (maxL : Nat) (ret : Option FieldType) (na : Nat) : Prop := GoodIn WS (wsV own idx C y (Cond.code y bytes maxL ret :: WS)) ∧ y.cls = C ∧ y.cls ≠ "java/lang/invoke/MethodHandle" ∧ y.cls ≠ "java/lang/invoke/VarHandle" ∧ (parseMethodDescriptor y.desc).map (fun d => d.parameters.length) = some na
def m_CS (own : String) (idx : Nat) (y : MethodName) (bytes : ByteArray) (maxL : Nat) (ret : Option FieldType) (na : Nat) : Prop := GoodIn WS (va_wsS own idx y (Cond.code y bytes maxL ret :: WS)) ∧ y.cls ≠ "java/lang/invoke/MethodHandle" ∧ y.cls ≠ "java/lang/invoke/VarHandle" ∧ (parseMethodDescriptor y.desc).map (fun d => d.parameters.length) = some na
theorem m_sub_A {n : Nat} {q : Nat → Nat} {a b : Nat} (h : a ≤ b) {x : Nat} (hx : m_A n q b x) : m_A n q a x := by
  rcases hx with h1 | h1
  · exact Or.inl h1
  · exact Or.inr (Nat.le_trans h h1)
theorem m_recv {C : String} {j : Nat} (hK : m_K D cI cZ s) (hS : m_S D mk n q A H0 c H locs) (V : m_O mk n j (c j) C) : ∃ cell : Cell, H[q j]? = some cell ∧ cell.vm.isStatics = false ∧ s.vm.findClass C = some cell.cls := by
  obtain ⟨hj, ci, fs, w, he, hc, rfl⟩ := V
  exact va_recv hK.1 hS.1 hc (q0 := j) (by rw [m_wO_get hj, he])
theorem m_pre {av : List Value} (hK : m_K D cI cZ s) (hS : m_S D mk n q A H0 c H locs) (U : State) (hU : U.heap = H) (hW : s.WarmedH U.vm) : m_Pc D cI cZ mk n q av c H.size av.toArray U := ⟨rfl, by rw [hU], by rw [hU]; exact hS.1, m_K.warm hW hK, hS.2.1.weaken (fun _ _ _ _ => trivial)⟩
set_option maxHeartbeats 4000000 in
theorem m_behind {H1 : Heap} {locs1 : List Loc} {c1 : Mm} {t : State} (hB : m_B D mk n q H.size c1 t) (ht : t.heap = H1) (hS : m_S D mk n q (m_A n q H0.size) H0 c H locs) (hS1 : va_S (m_A n q H0.size) H0 H1 locs1) : m_S D mk n q (m_A n q H0.size) H0 c1 H1 locs1 := ⟨by rw [← ht]; exact hB.1, hB.2.weaken (fun _ _ _ h => m_sub_A hS.2.2.1 h), hS1⟩
set_option maxHeartbeats 4000000 in
theorem m_calli {b idx maxL fr lo na : Nat} {C : String} {y : MethodName} {bytes : ByteArray} {rt : Option FieldType} {As : List Value} {r1 : Int32} {c1 : Mm} {stk : List Value} (X : m_Cx p s m args meth cd own cc nL ret D cI cZ) (hS : m_S D mk n q (m_A n q s.heap.size) s.heap c H locs) (hl : ls.size = nL)
    (hM : m_Mi l y bytes maxL rt fr lo D cI cZ mk n q (.ref (q b) :: As) c H.size (r1, c1)) (cw : m_CV own idx C y bytes maxL rt na) (V : m_O mk n b (c b) C) (hst : stk = As.reverse ++ .ref (q b) :: rest) (hn : As.length = na) (hR : fr + 1 ≤ R.frames ∧ 8 + (maxL + 11) + lo ≤ R.locals) (hcs : cells ≤ R.cells ∧ slots ≤ R.slots) (hw : (rest.map fun v => v.category).sum ≤ 8) (hdg : decode cc pc = .ok (.invokevirtual idx, 3))
    (kk : ∀ (H : Heap) (locs : List Loc), m_S D mk n q (m_A n q s.heap.size) s.heap c1 H locs → W p l e R s m args below meth cd H locs cells slots Q (F0 m (pc + 3) ls (.int r1 :: rest))) : W p l e R s m args below meth cd H locs cells slots Q (F0 m pc ls stk) := by
  obtain ⟨hx, hb, hml, hown, hts, hr, hlk, hK⟩ := X
  subst hst
  refine va_calli (va_runV (As := As) (rest := rest) (b := q b) ⟨hx, hb, hml, hown, hts⟩ hM (cwV na hts cw.1 rfl rfl rfl cw.2 hR) ⟨m_blind, m_recv hK hS V, fun U hU hW => m_pre hK hS U hU hW⟩ rfl hn hl rfl (lv_room hw) hdg hcs) hS.2.2 (fun x _ h => m_sub_A hS.2.2.1 h) (fun x h => m_sub_A hS.2.2.1 h) (fun r u t H1 locs1 ht hvm hw hB hz1 hk1 hS1 => ?_)
  cases hw
  exact kk H1 locs1 (m_behind hB ht hS hS1)
set_option maxHeartbeats 4000000 in
theorem m_callv {b idx maxL fr lo na : Nat} {C : String} {y : MethodName} {bytes : ByteArray} {As : List Value} {c1 : Mm} {stk : List Value} (X : m_Cx p s m args meth cd own cc nL ret D cI cZ) (hS : m_S D mk n q (m_A n q s.heap.size) s.heap c H locs) (hl : ls.size = nL)
    (hM : m_Mv l y bytes maxL fr lo D cI cZ mk n q (.ref (q b) :: As) c H.size c1) (cw : m_CV own idx C y bytes maxL none na) (V : m_O mk n b (c b) C) (hst : stk = As.reverse ++ .ref (q b) :: rest) (hn : As.length = na) (hR : fr + 1 ≤ R.frames ∧ 8 + (maxL + 11) + lo ≤ R.locals) (hcs : cells ≤ R.cells ∧ slots ≤ R.slots) (hw : (rest.map fun v => v.category).sum ≤ 8) (hdg : decode cc pc = .ok (.invokevirtual idx, 3))
    (kk : ∀ (H : Heap) (locs : List Loc), m_S D mk n q (m_A n q s.heap.size) s.heap c1 H locs → W p l e R s m args below meth cd H locs cells slots Q (F0 m (pc + 3) ls rest)) : W p l e R s m args below meth cd H locs cells slots Q (F0 m pc ls stk) := by
  obtain ⟨hx, hb, hml, hown, hts, hr, hlk, hK⟩ := X
  subst hst
  refine va_callv (va_runV (As := As) (rest := rest) (b := q b) ⟨hx, hb, hml, hown, hts⟩ hM (cwV na hts cw.1 rfl rfl rfl cw.2 hR) ⟨m_blind, m_recv hK hS V, fun U hU hW => m_pre hK hS U hU hW⟩ rfl hn hl rfl (lv_room hw) hdg hcs) hS.2.2 (fun x _ h => m_sub_A hS.2.2.1 h) (fun x h => m_sub_A hS.2.2.1 h) (fun u t H1 locs1 ht hvm hw hB hz1 hk1 hS1 => ?_)
  cases hw
  exact kk H1 locs1 (m_behind hB ht hS hS1)
set_option maxHeartbeats 4000000 in
theorem m_calls {idx maxL fr lo na : Nat} {y : MethodName} {bytes : ByteArray} {rt : Option FieldType} {As : List Value} {r1 : Int32} {c1 : Mm} {stk : List Value} (X : m_Cx p s m args meth cd own cc nL ret D cI cZ) (hS : m_S D mk n q (m_A n q s.heap.size) s.heap c H locs) (hl : ls.size = nL)
    (hM : m_Mi l y bytes maxL rt fr lo D cI cZ mk n q As c H.size (r1, c1)) (cw : m_CS own idx y bytes maxL rt na) (hst : stk = As.reverse ++ rest) (hn : As.length = na) (hR : fr + 1 ≤ R.frames ∧ 8 + (maxL + 11) + lo ≤ R.locals) (hcs : cells ≤ R.cells ∧ slots ≤ R.slots) (hw : (rest.map fun v => v.category).sum ≤ 8) (hdg : decode cc pc = .ok (.invokestatic idx, 3))
    (kk : ∀ (H : Heap) (locs : List Loc), m_S D mk n q (m_A n q s.heap.size) s.heap c1 H locs → W p l e R s m args below meth cd H locs cells slots Q (F0 m (pc + 3) ls (.int r1 :: rest))) : W p l e R s m args below meth cd H locs cells slots Q (F0 m pc ls stk) := by
  obtain ⟨hx, hb, hml, hown, hts, hr, hlk, hK⟩ := X
  subst hst
  refine va_calli (va_runS (As := As) (rest := rest) ⟨hx, hb, hml, hown, hts⟩ hM (va_cwS na hts cw.1 rfl rfl rfl cw.2 hR) ⟨m_blind, fun U hU hW => m_pre hK hS U hU hW⟩ rfl hn hl rfl (lv_room hw) hdg hcs) hS.2.2 (fun x _ h => m_sub_A hS.2.2.1 h) (fun x h => m_sub_A hS.2.2.1 h) (fun r u t H1 locs1 ht hvm hw hB hz1 hk1 hS1 => ?_)
  cases hw
  exact kk H1 locs1 (m_behind hB ht hS hS1)
def m_CN (y : MethodName) (bytes : ByteArray) (maxL : Nat) (ret : Option FieldType) (na : Nat) : Prop := GoodIn WS (Cond.code y bytes maxL ret :: WS) ∧ Cond.initialized y.cls ∈ WS ∧ Cond.static y ∈ WS ∧ y.cls ≠ "java/lang/invoke/MethodHandle" ∧ y.cls ≠ "java/lang/invoke/VarHandle" ∧ (parseMethodDescriptor y.desc).map (fun d => d.parameters.length) = some na
set_option maxHeartbeats 4000000 in
theorem m_calln {idx maxL fr lo na : Nat} {host : String} {y : MethodName} {bytes : ByteArray} {rt : Option FieldType} {As : List Value} {r1 : Int32} {c1 : Mm} {stk : List Value} (X : m_Cx p s m args meth cd own cc nL ret D cI cZ) (hS : m_S D mk n q (m_A n q s.heap.size) s.heap c H locs) (hl : ls.size = nL) (hN : va_Nw (.methodLinkNest own idx y host) s)
    (hM : m_Mi l y bytes maxL rt fr lo D cI cZ mk n q As c H.size (r1, c1)) (cw : m_CN y bytes maxL rt na) (hst : stk = As.reverse ++ rest) (hn : As.length = na) (hR : fr + 1 ≤ R.frames ∧ 8 + (maxL + 11) + lo ≤ R.locals) (hcs : cells ≤ R.cells ∧ slots ≤ R.slots) (hw : (rest.map fun v => v.category).sum ≤ 8) (hdg : decode cc pc = .ok (.invokestatic idx, 3))
    (kk : ∀ (H : Heap) (locs : List Loc), m_S D mk n q (m_A n q s.heap.size) s.heap c1 H locs → W p l e R s m args below meth cd H locs cells slots Q (F0 m (pc + 3) ls (.int r1 :: rest))) : W p l e R s m args below meth cd H locs cells slots Q (F0 m pc ls stk) := by
  obtain ⟨hx, hb, hml, hown, hts, hr, hlk, hK⟩ := X
  subst hst
  refine va_calli (va_runSN (As := As) (rest := rest) ⟨hx, hb, hml, hown, hts⟩ hM ⟨va_cnB na hts cw.1 rfl rfl rfl hN (hts _ cw.2.1) cw.2.2.2 hR, hts _ cw.2.2.1, trivial⟩ ⟨m_blind, fun U hU hW => m_pre hK hS U hU hW⟩ rfl hn hl rfl (lv_room hw) hdg hcs) hS.2.2 (fun x _ h => m_sub_A hS.2.2.1 h) (fun x h => m_sub_A hS.2.2.1 h) (fun r u t H1 locs1 ht hvm hw hB hz1 hk1 hS1 => ?_)
  cases hw
  exact kk H1 locs1 (m_behind hB ht hS hS1)
/-! answers -/
theorem m_reti {v : Int32} {Rr : Int32 × Mm} (X : m_Cx p s m args meth cd own cc nL (some .int) D cI cZ) (hS : m_S D mk n q (m_A n q s.heap.size) s.heap c H locs) (hf : some (v, c) = some Rr) (hdg : decode cc pc = .ok (.ireturn, 1)) : W p l e R s m args below meth cd H locs cells slots (MQ below (m_Qi D mk n q s.heap.size Rr) args s cells slots (m_A n q s.heap.size)) (F0 m pc ls [.int v]) := by
  obtain ⟨hx, hb, hml, hown, hts, hr, hlk, hK⟩ := X
  exact W.iret hx hb hr (fun t ht hW => ⟨⟨v, c, rfl, (Option.some.inj hf).symm, by rw [ht]; exact hS.1, hS.2.1⟩, hS.2.2.F ht⟩) hS.2.2.2.2 hdg hlk
theorem m_retz {v : Int32} {Rr : Int32 × Mm} (X : m_Cx p s m args meth cd own cc nL (some .boolean) D cI cZ) (hS : m_S D mk n q (m_A n q s.heap.size) s.heap c H locs) (hv : v = 0 ∨ v = 1) (hf : some (v, c) = some Rr) (hdg : decode cc pc = .ok (.ireturn, 1)) : W p l e R s m args below meth cd H locs cells slots (MQ below (m_Qi D mk n q s.heap.size Rr) args s cells slots (m_A n q s.heap.size)) (F0 m pc ls [.int v]) := by
  obtain ⟨hx, hb, hml, hown, hts, hr, hlk, hK⟩ := X
  exact W.zret hx hb hr (by rcases hv with rfl | rfl <;> rfl) (fun t ht hW => ⟨⟨v, c, rfl, (Option.some.inj hf).symm, by rw [ht]; exact hS.1, hS.2.1⟩, hS.2.2.F ht⟩) hS.2.2.2.2 hdg hlk
theorem m_retv {Rr : Mm} (X : m_Cx p s m args meth cd own cc nL none D cI cZ) (hS : m_S D mk n q (m_A n q s.heap.size) s.heap c H locs) (hf : some c = some Rr) (hdg : decode cc pc = .ok (.return_, 1)) : W p l e R s m args below meth cd H locs cells slots (MQ below (m_Qv D mk n q s.heap.size Rr) args s cells slots (m_A n q s.heap.size)) (F0 m pc ls []) := by
  obtain ⟨hx, hb, hml, hown, hts, hr, hlk, hK⟩ := X
  exact W.vret hx hb hr (fun t ht hW => ⟨⟨c, rfl, (Option.some.inj hf).symm, by rw [ht]; exact hS.1, hS.2.1⟩, hS.2.2.F ht⟩) hS.2.2.2.2 hdg hlk
end MROWS
theorem m_cv {own : String} {idx : Nat} {C : String} {y : MethodName} {bytes : ByteArray} {maxL : Nat} {ret : Option FieldType} {na : Nat} (h1 : Cond.methodLink own idx y ∈ WS) (h2 : Cond.instanceMethod y ∈ WS) (h3 : Cond.selects C y y ∈ WS) (h4 : Cond.initialized C ∈ WS) (h5 : Cond.code y bytes maxL ret ∈ WS) (hd : y.cls = C ∧ y.cls ≠ "java/lang/invoke/MethodHandle" ∧ y.cls ≠ "java/lang/invoke/VarHandle" ∧ (parseMethodDescriptor y.desc).map (fun d => d.parameters.length) = some na) : m_CV own idx C y bytes maxL ret na := by
  refine ⟨fun w hw => ?_, hd⟩
  simp only [wsV, List.mem_append, List.mem_cons, List.not_mem_nil, or_false] at hw
  rcases hw with (rfl | rfl | rfl | rfl) | rfl | hw
  · exact m_goodWS _ h1
  · exact m_goodWS _ h2
  · exact m_goodWS _ h3
  · exact m_goodWS _ h4
  · exact m_goodWS _ h5
  · exact m_goodWS _ hw
theorem m_cs {own : String} {idx : Nat} {y : MethodName} {bytes : ByteArray} {maxL : Nat} {ret : Option FieldType} {na : Nat} (h1 : Cond.methodLink own idx y ∈ WS) (h2 : Cond.static y ∈ WS) (h4 : Cond.initialized y.cls ∈ WS) (h5 : Cond.code y bytes maxL ret ∈ WS) (hd : y.cls ≠ "java/lang/invoke/MethodHandle" ∧ y.cls ≠ "java/lang/invoke/VarHandle" ∧ (parseMethodDescriptor y.desc).map (fun d => d.parameters.length) = some na) : m_CS own idx y bytes maxL ret na := by
  refine ⟨fun w hw => ?_, hd⟩
  simp only [va_wsS, List.mem_append, List.mem_cons, List.not_mem_nil, or_false] at hw
  rcases hw with (rfl | rfl | rfl) | rfl | hw
  · exact m_goodWS _ h1
  · exact m_goodWS _ h2
  · exact m_goodWS _ h4
  · exact m_goodWS _ h5
  · exact m_goodWS _ hw
theorem m_cn {y : MethodName} {bytes : ByteArray} {maxL : Nat} {ret : Option FieldType} {na : Nat} (h5 : Cond.code y bytes maxL ret ∈ WS) (h4 : Cond.initialized y.cls ∈ WS) (h2 : Cond.static y ∈ WS) (hd : y.cls ≠ "java/lang/invoke/MethodHandle" ∧ y.cls ≠ "java/lang/invoke/VarHandle" ∧ (parseMethodDescriptor y.desc).map (fun d => d.parameters.length) = some na) : m_CN y bytes maxL ret na := by
  refine ⟨fun w hw => ?_, h4, h2, hd⟩
  rcases List.mem_cons.mp hw with rfl | hw
  · exact m_goodWS _ h5
  · exact m_goodWS _ hw
end
section
theorem dX0_init_0 : decode cX0_init 0 = .ok (.aload_n 0, 1) := by decide +kernel
theorem dX0_init_1 : decode cX0_init 1 = .ok (.invokespecial 3, 3) := by decide +kernel
theorem dX0_init_4 : decode cX0_init 4 = .ok (.aload_n 0, 1) := by decide +kernel
theorem dX0_init_5 : decode cX0_init 5 = .ok (.bipush 8, 2) := by decide +kernel
theorem dX0_init_7 : decode cX0_init 7 = .ok (.newarray .int, 2) := by decide +kernel
theorem dX0_init_9 : decode cX0_init 9 = .ok (.putfield 9, 3) := by decide +kernel
theorem dX0_init_12 : decode cX0_init 12 = .ok (.aload_n 0, 1) := by decide +kernel
theorem dX0_init_13 : decode cX0_init 13 = .ok (.bipush 8, 2) := by decide +kernel
theorem dX0_init_15 : decode cX0_init 15 = .ok (.newarray .boolean, 2) := by decide +kernel
theorem dX0_init_17 : decode cX0_init 17 = .ok (.putfield 15, 3) := by decide +kernel
theorem dX0_init_20 : decode cX0_init 20 = .ok (.aload_n 0, 1) := by decide +kernel
theorem dX0_init_21 : decode cX0_init 21 = .ok (.bipush 8, 2) := by decide +kernel
theorem dX0_init_23 : decode cX0_init 23 = .ok (.newarray .int, 2) := by decide +kernel
theorem dX0_init_25 : decode cX0_init 25 = .ok (.putfield 19, 3) := by decide +kernel
theorem dX0_init_28 : decode cX0_init 28 = .ok (.aload_n 0, 1) := by decide +kernel
theorem dX0_init_29 : decode cX0_init 29 = .ok (.iconst 0, 1) := by decide +kernel
theorem dX0_init_30 : decode cX0_init 30 = .ok (.putfield 22, 3) := by decide +kernel
theorem dX0_init_33 : decode cX0_init 33 = .ok (.return_, 1) := by decide +kernel
theorem dX0_note_0 : decode cX0_note 0 = .ok (.aload_n 0, 1) := by decide +kernel
theorem dX0_note_1 : decode cX0_note 1 = .ok (.getfield 22, 3) := by decide +kernel
theorem dX0_note_4 : decode cX0_note 4 = .ok (.bipush 8, 2) := by decide +kernel
theorem dX0_note_6 : decode cX0_note 6 = .ok (.if_icmp .lt 7, 3) := by decide +kernel
theorem dX0_note_9 : decode cX0_note 9 = .ok (.aload_n 0, 1) := by decide +kernel
theorem dX0_note_10 : decode cX0_note 10 = .ok (.invokevirtual 26, 3) := by decide +kernel
theorem dX0_note_13 : decode cX0_note 13 = .ok (.aload_n 0, 1) := by decide +kernel
theorem dX0_note_14 : decode cX0_note 14 = .ok (.getfield 9, 3) := by decide +kernel
theorem dX0_note_17 : decode cX0_note 17 = .ok (.aload_n 0, 1) := by decide +kernel
theorem dX0_note_18 : decode cX0_note 18 = .ok (.getfield 22, 3) := by decide +kernel
theorem dX0_note_21 : decode cX0_note 21 = .ok (.iload_n 1, 1) := by decide +kernel
theorem dX0_note_22 : decode cX0_note 22 = .ok (.iastore, 1) := by decide +kernel
theorem dX0_note_23 : decode cX0_note 23 = .ok (.aload_n 0, 1) := by decide +kernel
theorem dX0_note_24 : decode cX0_note 24 = .ok (.getfield 15, 3) := by decide +kernel
theorem dX0_note_27 : decode cX0_note 27 = .ok (.aload_n 0, 1) := by decide +kernel
theorem dX0_note_28 : decode cX0_note 28 = .ok (.getfield 22, 3) := by decide +kernel
theorem dX0_note_31 : decode cX0_note 31 = .ok (.iload_n 2, 1) := by decide +kernel
theorem dX0_note_32 : decode cX0_note 32 = .ok (.bastore, 1) := by decide +kernel
theorem dX0_note_33 : decode cX0_note 33 = .ok (.aload_n 0, 1) := by decide +kernel
theorem dX0_note_34 : decode cX0_note 34 = .ok (.getfield 19, 3) := by decide +kernel
theorem dX0_note_37 : decode cX0_note 37 = .ok (.aload_n 0, 1) := by decide +kernel
theorem dX0_note_38 : decode cX0_note 38 = .ok (.getfield 22, 3) := by decide +kernel
theorem dX0_note_41 : decode cX0_note 41 = .ok (.iload_n 3, 1) := by decide +kernel
theorem dX0_note_42 : decode cX0_note 42 = .ok (.iastore, 1) := by decide +kernel
theorem dX0_note_43 : decode cX0_note 43 = .ok (.aload_n 0, 1) := by decide +kernel
theorem dX0_note_44 : decode cX0_note 44 = .ok (.dup, 1) := by decide +kernel
theorem dX0_note_45 : decode cX0_note 45 = .ok (.getfield 22, 3) := by decide +kernel
theorem dX0_note_48 : decode cX0_note 48 = .ok (.iconst 1, 1) := by decide +kernel
theorem dX0_note_49 : decode cX0_note 49 = .ok (.iadd, 1) := by decide +kernel
theorem dX0_note_50 : decode cX0_note 50 = .ok (.putfield 22, 3) := by decide +kernel
theorem dX0_note_53 : decode cX0_note 53 = .ok (.return_, 1) := by decide +kernel
theorem dX0_dropOldest_0 : decode cX0_dropOldest 0 = .ok (.iconst 1, 1) := by decide +kernel
theorem dX0_dropOldest_1 : decode cX0_dropOldest 1 = .ok (.istore_n 1, 1) := by decide +kernel
theorem dX0_dropOldest_2 : decode cX0_dropOldest 2 = .ok (.iload_n 1, 1) := by decide +kernel
theorem dX0_dropOldest_3 : decode cX0_dropOldest 3 = .ok (.bipush 8, 2) := by decide +kernel
theorem dX0_dropOldest_5 : decode cX0_dropOldest 5 = .ok (.if_icmp .ge 51, 3) := by decide +kernel
theorem dX0_dropOldest_8 : decode cX0_dropOldest 8 = .ok (.aload_n 0, 1) := by decide +kernel
theorem dX0_dropOldest_9 : decode cX0_dropOldest 9 = .ok (.getfield 9, 3) := by decide +kernel
theorem dX0_dropOldest_12 : decode cX0_dropOldest 12 = .ok (.iload_n 1, 1) := by decide +kernel
theorem dX0_dropOldest_13 : decode cX0_dropOldest 13 = .ok (.iconst 1, 1) := by decide +kernel
theorem dX0_dropOldest_14 : decode cX0_dropOldest 14 = .ok (.isub, 1) := by decide +kernel
theorem dX0_dropOldest_15 : decode cX0_dropOldest 15 = .ok (.aload_n 0, 1) := by decide +kernel
theorem dX0_dropOldest_16 : decode cX0_dropOldest 16 = .ok (.getfield 9, 3) := by decide +kernel
theorem dX0_dropOldest_19 : decode cX0_dropOldest 19 = .ok (.iload_n 1, 1) := by decide +kernel
theorem dX0_dropOldest_20 : decode cX0_dropOldest 20 = .ok (.iaload, 1) := by decide +kernel
theorem dX0_dropOldest_21 : decode cX0_dropOldest 21 = .ok (.iastore, 1) := by decide +kernel
theorem dX0_dropOldest_22 : decode cX0_dropOldest 22 = .ok (.aload_n 0, 1) := by decide +kernel
theorem dX0_dropOldest_23 : decode cX0_dropOldest 23 = .ok (.getfield 15, 3) := by decide +kernel
theorem dX0_dropOldest_26 : decode cX0_dropOldest 26 = .ok (.iload_n 1, 1) := by decide +kernel
theorem dX0_dropOldest_27 : decode cX0_dropOldest 27 = .ok (.iconst 1, 1) := by decide +kernel
theorem dX0_dropOldest_28 : decode cX0_dropOldest 28 = .ok (.isub, 1) := by decide +kernel
theorem dX0_dropOldest_29 : decode cX0_dropOldest 29 = .ok (.aload_n 0, 1) := by decide +kernel
theorem dX0_dropOldest_30 : decode cX0_dropOldest 30 = .ok (.getfield 15, 3) := by decide +kernel
theorem dX0_dropOldest_33 : decode cX0_dropOldest 33 = .ok (.iload_n 1, 1) := by decide +kernel
theorem dX0_dropOldest_34 : decode cX0_dropOldest 34 = .ok (.baload, 1) := by decide +kernel
theorem dX0_dropOldest_35 : decode cX0_dropOldest 35 = .ok (.bastore, 1) := by decide +kernel
theorem dX0_dropOldest_36 : decode cX0_dropOldest 36 = .ok (.aload_n 0, 1) := by decide +kernel
theorem dX0_dropOldest_37 : decode cX0_dropOldest 37 = .ok (.getfield 19, 3) := by decide +kernel
theorem dX0_dropOldest_40 : decode cX0_dropOldest 40 = .ok (.iload_n 1, 1) := by decide +kernel
theorem dX0_dropOldest_41 : decode cX0_dropOldest 41 = .ok (.iconst 1, 1) := by decide +kernel
theorem dX0_dropOldest_42 : decode cX0_dropOldest 42 = .ok (.isub, 1) := by decide +kernel
theorem dX0_dropOldest_43 : decode cX0_dropOldest 43 = .ok (.aload_n 0, 1) := by decide +kernel
theorem dX0_dropOldest_44 : decode cX0_dropOldest 44 = .ok (.getfield 19, 3) := by decide +kernel
theorem dX0_dropOldest_47 : decode cX0_dropOldest 47 = .ok (.iload_n 1, 1) := by decide +kernel
theorem dX0_dropOldest_48 : decode cX0_dropOldest 48 = .ok (.iaload, 1) := by decide +kernel
theorem dX0_dropOldest_49 : decode cX0_dropOldest 49 = .ok (.iastore, 1) := by decide +kernel
theorem dX0_dropOldest_50 : decode cX0_dropOldest 50 = .ok (.iinc 1 1, 3) := by decide +kernel
theorem dX0_dropOldest_53 : decode cX0_dropOldest 53 = .ok (.goto (-51), 3) := by decide +kernel
theorem dX0_dropOldest_56 : decode cX0_dropOldest 56 = .ok (.aload_n 0, 1) := by decide +kernel
theorem dX0_dropOldest_57 : decode cX0_dropOldest 57 = .ok (.bipush 7, 2) := by decide +kernel
theorem dX0_dropOldest_59 : decode cX0_dropOldest 59 = .ok (.putfield 22, 3) := by decide +kernel
theorem dX0_dropOldest_62 : decode cX0_dropOldest 62 = .ok (.return_, 1) := by decide +kernel
theorem dX0_takeBack_0 : decode cX0_takeBack 0 = .ok (.aload_n 0, 1) := by decide +kernel
theorem dX0_takeBack_1 : decode cX0_takeBack 1 = .ok (.getfield 22, 3) := by decide +kernel
theorem dX0_takeBack_4 : decode cX0_takeBack 4 = .ok (.ifCond .gt 5, 3) := by decide +kernel
theorem dX0_takeBack_7 : decode cX0_takeBack 7 = .ok (.iconst 0, 1) := by decide +kernel
theorem dX0_takeBack_8 : decode cX0_takeBack 8 = .ok (.ireturn, 1) := by decide +kernel
theorem dX0_takeBack_9 : decode cX0_takeBack 9 = .ok (.aload_n 0, 1) := by decide +kernel
theorem dX0_takeBack_10 : decode cX0_takeBack 10 = .ok (.dup, 1) := by decide +kernel
theorem dX0_takeBack_11 : decode cX0_takeBack 11 = .ok (.getfield 22, 3) := by decide +kernel
theorem dX0_takeBack_14 : decode cX0_takeBack 14 = .ok (.iconst 1, 1) := by decide +kernel
theorem dX0_takeBack_15 : decode cX0_takeBack 15 = .ok (.isub, 1) := by decide +kernel
theorem dX0_takeBack_16 : decode cX0_takeBack 16 = .ok (.putfield 22, 3) := by decide +kernel
theorem dX0_takeBack_19 : decode cX0_takeBack 19 = .ok (.aload_n 0, 1) := by decide +kernel
theorem dX0_takeBack_20 : decode cX0_takeBack 20 = .ok (.getfield 15, 3) := by decide +kernel
theorem dX0_takeBack_23 : decode cX0_takeBack 23 = .ok (.aload_n 0, 1) := by decide +kernel
theorem dX0_takeBack_24 : decode cX0_takeBack 24 = .ok (.getfield 22, 3) := by decide +kernel
theorem dX0_takeBack_27 : decode cX0_takeBack 27 = .ok (.baload, 1) := by decide +kernel
theorem dX0_takeBack_28 : decode cX0_takeBack 28 = .ok (.ifCond .eq 29, 3) := by decide +kernel
theorem dX0_takeBack_31 : decode cX0_takeBack 31 = .ok (.aload_n 1, 1) := by decide +kernel
theorem dX0_takeBack_32 : decode cX0_takeBack 32 = .ok (.getfield 29, 3) := by decide +kernel
theorem dX0_takeBack_35 : decode cX0_takeBack 35 = .ok (.aload_n 0, 1) := by decide +kernel
theorem dX0_takeBack_36 : decode cX0_takeBack 36 = .ok (.getfield 9, 3) := by decide +kernel
theorem dX0_takeBack_39 : decode cX0_takeBack 39 = .ok (.aload_n 0, 1) := by decide +kernel
theorem dX0_takeBack_40 : decode cX0_takeBack 40 = .ok (.getfield 22, 3) := by decide +kernel
theorem dX0_takeBack_43 : decode cX0_takeBack 43 = .ok (.iaload, 1) := by decide +kernel
theorem dX0_takeBack_44 : decode cX0_takeBack 44 = .ok (.aload_n 0, 1) := by decide +kernel
theorem dX0_takeBack_45 : decode cX0_takeBack 45 = .ok (.getfield 19, 3) := by decide +kernel
theorem dX0_takeBack_48 : decode cX0_takeBack 48 = .ok (.aload_n 0, 1) := by decide +kernel
theorem dX0_takeBack_49 : decode cX0_takeBack 49 = .ok (.getfield 22, 3) := by decide +kernel
theorem dX0_takeBack_52 : decode cX0_takeBack 52 = .ok (.iaload, 1) := by decide +kernel
theorem dX0_takeBack_53 : decode cX0_takeBack 53 = .ok (.iastore, 1) := by decide +kernel
theorem dX0_takeBack_54 : decode cX0_takeBack 54 = .ok (.goto 26, 3) := by decide +kernel
theorem dX0_takeBack_57 : decode cX0_takeBack 57 = .ok (.aload_n 1, 1) := by decide +kernel
theorem dX0_takeBack_58 : decode cX0_takeBack 58 = .ok (.getfield 34, 3) := by decide +kernel
theorem dX0_takeBack_61 : decode cX0_takeBack 61 = .ok (.aload_n 0, 1) := by decide +kernel
theorem dX0_takeBack_62 : decode cX0_takeBack 62 = .ok (.getfield 9, 3) := by decide +kernel
theorem dX0_takeBack_65 : decode cX0_takeBack 65 = .ok (.aload_n 0, 1) := by decide +kernel
theorem dX0_takeBack_66 : decode cX0_takeBack 66 = .ok (.getfield 22, 3) := by decide +kernel
theorem dX0_takeBack_69 : decode cX0_takeBack 69 = .ok (.iaload, 1) := by decide +kernel
theorem dX0_takeBack_70 : decode cX0_takeBack 70 = .ok (.aload_n 0, 1) := by decide +kernel
theorem dX0_takeBack_71 : decode cX0_takeBack 71 = .ok (.getfield 19, 3) := by decide +kernel
theorem dX0_takeBack_74 : decode cX0_takeBack 74 = .ok (.aload_n 0, 1) := by decide +kernel
theorem dX0_takeBack_75 : decode cX0_takeBack 75 = .ok (.getfield 22, 3) := by decide +kernel
theorem dX0_takeBack_78 : decode cX0_takeBack 78 = .ok (.iaload, 1) := by decide +kernel
theorem dX0_takeBack_79 : decode cX0_takeBack 79 = .ok (.iastore, 1) := by decide +kernel
theorem dX0_takeBack_80 : decode cX0_takeBack 80 = .ok (.iconst 1, 1) := by decide +kernel
theorem dX0_takeBack_81 : decode cX0_takeBack 81 = .ok (.ireturn, 1) := by decide +kernel
theorem dX1_init_0 : decode cX1_init 0 = .ok (.aload_n 0, 1) := by decide +kernel
theorem dX1_init_1 : decode cX1_init 1 = .ok (.invokespecial 3, 3) := by decide +kernel
theorem dX1_init_4 : decode cX1_init 4 = .ok (.aload_n 0, 1) := by decide +kernel
theorem dX1_init_5 : decode cX1_init 5 = .ok (.bipush 6, 2) := by decide +kernel
theorem dX1_init_7 : decode cX1_init 7 = .ok (.newarray .int, 2) := by decide +kernel
theorem dX1_init_9 : decode cX1_init 9 = .ok (.putfield 9, 3) := by decide +kernel
theorem dX1_init_12 : decode cX1_init 12 = .ok (.aload_n 0, 1) := by decide +kernel
theorem dX1_init_13 : decode cX1_init 13 = .ok (.bipush 6, 2) := by decide +kernel
theorem dX1_init_15 : decode cX1_init 15 = .ok (.newarray .int, 2) := by decide +kernel
theorem dX1_init_17 : decode cX1_init 17 = .ok (.putfield 15, 3) := by decide +kernel
theorem dX1_init_20 : decode cX1_init 20 = .ok (.aload_n 0, 1) := by decide +kernel
theorem dX1_init_21 : decode cX1_init 21 = .ok (.bipush 6, 2) := by decide +kernel
theorem dX1_init_23 : decode cX1_init 23 = .ok (.newarray .int, 2) := by decide +kernel
theorem dX1_init_25 : decode cX1_init 25 = .ok (.putfield 18, 3) := by decide +kernel
theorem dX1_init_28 : decode cX1_init 28 = .ok (.aload_n 0, 1) := by decide +kernel
theorem dX1_init_29 : decode cX1_init 29 = .ok (.bipush 6, 2) := by decide +kernel
theorem dX1_init_31 : decode cX1_init 31 = .ok (.newarray .int, 2) := by decide +kernel
theorem dX1_init_33 : decode cX1_init 33 = .ok (.putfield 21, 3) := by decide +kernel
theorem dX1_init_36 : decode cX1_init 36 = .ok (.aload_n 0, 1) := by decide +kernel
theorem dX1_init_37 : decode cX1_init 37 = .ok (.bipush 6, 2) := by decide +kernel
theorem dX1_init_39 : decode cX1_init 39 = .ok (.newarray .int, 2) := by decide +kernel
theorem dX1_init_41 : decode cX1_init 41 = .ok (.putfield 24, 3) := by decide +kernel
theorem dX1_init_44 : decode cX1_init 44 = .ok (.aload_n 0, 1) := by decide +kernel
theorem dX1_init_45 : decode cX1_init 45 = .ok (.iconst 3, 1) := by decide +kernel
theorem dX1_init_46 : decode cX1_init 46 = .ok (.newarray .int, 2) := by decide +kernel
theorem dX1_init_48 : decode cX1_init 48 = .ok (.putfield 27, 3) := by decide +kernel
theorem dX1_init_51 : decode cX1_init 51 = .ok (.aload_n 0, 1) := by decide +kernel
theorem dX1_init_52 : decode cX1_init 52 = .ok (.iconst 3, 1) := by decide +kernel
theorem dX1_init_53 : decode cX1_init 53 = .ok (.newarray .int, 2) := by decide +kernel
theorem dX1_init_55 : decode cX1_init 55 = .ok (.putfield 30, 3) := by decide +kernel
theorem dX1_init_58 : decode cX1_init 58 = .ok (.return_, 1) := by decide +kernel
theorem dX1_clear_0 : decode cX1_clear 0 = .ok (.aload_n 0, 1) := by decide +kernel
theorem dX1_clear_1 : decode cX1_clear 1 = .ok (.iconst 0, 1) := by decide +kernel
theorem dX1_clear_2 : decode cX1_clear 2 = .ok (.putfield 33, 3) := by decide +kernel
theorem dX1_clear_5 : decode cX1_clear 5 = .ok (.aload_n 0, 1) := by decide +kernel
theorem dX1_clear_6 : decode cX1_clear 6 = .ok (.iconst 0, 1) := by decide +kernel
theorem dX1_clear_7 : decode cX1_clear 7 = .ok (.putfield 37, 3) := by decide +kernel
theorem dX1_clear_10 : decode cX1_clear 10 = .ok (.aload_n 0, 1) := by decide +kernel
theorem dX1_clear_11 : decode cX1_clear 11 = .ok (.iconst 4, 1) := by decide +kernel
theorem dX1_clear_12 : decode cX1_clear 12 = .ok (.putfield 40, 3) := by decide +kernel
theorem dX1_clear_15 : decode cX1_clear 15 = .ok (.aload_n 0, 1) := by decide +kernel
theorem dX1_clear_16 : decode cX1_clear 16 = .ok (.bipush 10, 2) := by decide +kernel
theorem dX1_clear_18 : decode cX1_clear 18 = .ok (.putfield 43, 3) := by decide +kernel
theorem dX1_clear_21 : decode cX1_clear 21 = .ok (.aload_n 0, 1) := by decide +kernel
theorem dX1_clear_22 : decode cX1_clear 22 = .ok (.iconst 2, 1) := by decide +kernel
theorem dX1_clear_23 : decode cX1_clear 23 = .ok (.putfield 46, 3) := by decide +kernel
theorem dX1_clear_26 : decode cX1_clear 26 = .ok (.aload_n 0, 1) := by decide +kernel
theorem dX1_clear_27 : decode cX1_clear 27 = .ok (.iconst 4, 1) := by decide +kernel
theorem dX1_clear_28 : decode cX1_clear 28 = .ok (.putfield 49, 3) := by decide +kernel
theorem dX1_clear_31 : decode cX1_clear 31 = .ok (.return_, 1) := by decide +kernel
theorem dX1_copy_0 : decode cX1_copy 0 = .ok (.aload_n 0, 1) := by decide +kernel
theorem dX1_copy_1 : decode cX1_copy 1 = .ok (.aload_n 1, 1) := by decide +kernel
theorem dX1_copy_2 : decode cX1_copy 2 = .ok (.getfield 33, 3) := by decide +kernel
theorem dX1_copy_5 : decode cX1_copy 5 = .ok (.putfield 33, 3) := by decide +kernel
theorem dX1_copy_8 : decode cX1_copy 8 = .ok (.aload_n 0, 1) := by decide +kernel
theorem dX1_copy_9 : decode cX1_copy 9 = .ok (.aload_n 1, 1) := by decide +kernel
theorem dX1_copy_10 : decode cX1_copy 10 = .ok (.getfield 37, 3) := by decide +kernel
theorem dX1_copy_13 : decode cX1_copy 13 = .ok (.putfield 37, 3) := by decide +kernel
theorem dX1_copy_16 : decode cX1_copy 16 = .ok (.aload_n 0, 1) := by decide +kernel
theorem dX1_copy_17 : decode cX1_copy 17 = .ok (.aload_n 1, 1) := by decide +kernel
theorem dX1_copy_18 : decode cX1_copy 18 = .ok (.getfield 40, 3) := by decide +kernel
theorem dX1_copy_21 : decode cX1_copy 21 = .ok (.putfield 40, 3) := by decide +kernel
theorem dX1_copy_24 : decode cX1_copy 24 = .ok (.aload_n 0, 1) := by decide +kernel
theorem dX1_copy_25 : decode cX1_copy 25 = .ok (.aload_n 1, 1) := by decide +kernel
theorem dX1_copy_26 : decode cX1_copy 26 = .ok (.getfield 43, 3) := by decide +kernel
theorem dX1_copy_29 : decode cX1_copy 29 = .ok (.putfield 43, 3) := by decide +kernel
theorem dX1_copy_32 : decode cX1_copy 32 = .ok (.aload_n 0, 1) := by decide +kernel
theorem dX1_copy_33 : decode cX1_copy 33 = .ok (.aload_n 1, 1) := by decide +kernel
theorem dX1_copy_34 : decode cX1_copy 34 = .ok (.getfield 46, 3) := by decide +kernel
theorem dX1_copy_37 : decode cX1_copy 37 = .ok (.putfield 46, 3) := by decide +kernel
theorem dX1_copy_40 : decode cX1_copy 40 = .ok (.aload_n 0, 1) := by decide +kernel
theorem dX1_copy_41 : decode cX1_copy 41 = .ok (.aload_n 1, 1) := by decide +kernel
theorem dX1_copy_42 : decode cX1_copy 42 = .ok (.getfield 49, 3) := by decide +kernel
theorem dX1_copy_45 : decode cX1_copy 45 = .ok (.putfield 49, 3) := by decide +kernel
theorem dX1_copy_48 : decode cX1_copy 48 = .ok (.aload_n 1, 1) := by decide +kernel
theorem dX1_copy_49 : decode cX1_copy 49 = .ok (.getfield 9, 3) := by decide +kernel
theorem dX1_copy_52 : decode cX1_copy 52 = .ok (.iconst 0, 1) := by decide +kernel
theorem dX1_copy_53 : decode cX1_copy 53 = .ok (.aload_n 0, 1) := by decide +kernel
theorem dX1_copy_54 : decode cX1_copy 54 = .ok (.getfield 9, 3) := by decide +kernel
theorem dX1_copy_57 : decode cX1_copy 57 = .ok (.iconst 0, 1) := by decide +kernel
theorem dX1_copy_58 : decode cX1_copy 58 = .ok (.bipush 6, 2) := by decide +kernel
theorem dX1_copy_60 : decode cX1_copy 60 = .ok (.invokestatic 52, 3) := by decide +kernel
theorem dX1_copy_63 : decode cX1_copy 63 = .ok (.aload_n 1, 1) := by decide +kernel
theorem dX1_copy_64 : decode cX1_copy 64 = .ok (.getfield 15, 3) := by decide +kernel
theorem dX1_copy_67 : decode cX1_copy 67 = .ok (.iconst 0, 1) := by decide +kernel
theorem dX1_copy_68 : decode cX1_copy 68 = .ok (.aload_n 0, 1) := by decide +kernel
theorem dX1_copy_69 : decode cX1_copy 69 = .ok (.getfield 15, 3) := by decide +kernel
theorem dX1_copy_72 : decode cX1_copy 72 = .ok (.iconst 0, 1) := by decide +kernel
theorem dX1_copy_73 : decode cX1_copy 73 = .ok (.bipush 6, 2) := by decide +kernel
theorem dX1_copy_75 : decode cX1_copy 75 = .ok (.invokestatic 52, 3) := by decide +kernel
theorem dX1_copy_78 : decode cX1_copy 78 = .ok (.aload_n 1, 1) := by decide +kernel
theorem dX1_copy_79 : decode cX1_copy 79 = .ok (.getfield 18, 3) := by decide +kernel
theorem dX1_copy_82 : decode cX1_copy 82 = .ok (.iconst 0, 1) := by decide +kernel
theorem dX1_copy_83 : decode cX1_copy 83 = .ok (.aload_n 0, 1) := by decide +kernel
theorem dX1_copy_84 : decode cX1_copy 84 = .ok (.getfield 18, 3) := by decide +kernel
theorem dX1_copy_87 : decode cX1_copy 87 = .ok (.iconst 0, 1) := by decide +kernel
theorem dX1_copy_88 : decode cX1_copy 88 = .ok (.bipush 6, 2) := by decide +kernel
theorem dX1_copy_90 : decode cX1_copy 90 = .ok (.invokestatic 52, 3) := by decide +kernel
theorem dX1_copy_93 : decode cX1_copy 93 = .ok (.aload_n 1, 1) := by decide +kernel
theorem dX1_copy_94 : decode cX1_copy 94 = .ok (.getfield 21, 3) := by decide +kernel
theorem dX1_copy_97 : decode cX1_copy 97 = .ok (.iconst 0, 1) := by decide +kernel
theorem dX1_copy_98 : decode cX1_copy 98 = .ok (.aload_n 0, 1) := by decide +kernel
theorem dX1_copy_99 : decode cX1_copy 99 = .ok (.getfield 21, 3) := by decide +kernel
theorem dX1_copy_102 : decode cX1_copy 102 = .ok (.iconst 0, 1) := by decide +kernel
theorem dX1_copy_103 : decode cX1_copy 103 = .ok (.bipush 6, 2) := by decide +kernel
theorem dX1_copy_105 : decode cX1_copy 105 = .ok (.invokestatic 52, 3) := by decide +kernel
theorem dX1_copy_108 : decode cX1_copy 108 = .ok (.aload_n 1, 1) := by decide +kernel
theorem dX1_copy_109 : decode cX1_copy 109 = .ok (.getfield 24, 3) := by decide +kernel
theorem dX1_copy_112 : decode cX1_copy 112 = .ok (.iconst 0, 1) := by decide +kernel
theorem dX1_copy_113 : decode cX1_copy 113 = .ok (.aload_n 0, 1) := by decide +kernel
theorem dX1_copy_114 : decode cX1_copy 114 = .ok (.getfield 24, 3) := by decide +kernel
theorem dX1_copy_117 : decode cX1_copy 117 = .ok (.iconst 0, 1) := by decide +kernel
theorem dX1_copy_118 : decode cX1_copy 118 = .ok (.bipush 6, 2) := by decide +kernel
theorem dX1_copy_120 : decode cX1_copy 120 = .ok (.invokestatic 52, 3) := by decide +kernel
theorem dX1_copy_123 : decode cX1_copy 123 = .ok (.aload_n 1, 1) := by decide +kernel
theorem dX1_copy_124 : decode cX1_copy 124 = .ok (.getfield 27, 3) := by decide +kernel
theorem dX1_copy_127 : decode cX1_copy 127 = .ok (.iconst 0, 1) := by decide +kernel
theorem dX1_copy_128 : decode cX1_copy 128 = .ok (.aload_n 0, 1) := by decide +kernel
theorem dX1_copy_129 : decode cX1_copy 129 = .ok (.getfield 27, 3) := by decide +kernel
theorem dX1_copy_132 : decode cX1_copy 132 = .ok (.iconst 0, 1) := by decide +kernel
theorem dX1_copy_133 : decode cX1_copy 133 = .ok (.iconst 3, 1) := by decide +kernel
theorem dX1_copy_134 : decode cX1_copy 134 = .ok (.invokestatic 52, 3) := by decide +kernel
theorem dX1_copy_137 : decode cX1_copy 137 = .ok (.aload_n 1, 1) := by decide +kernel
theorem dX1_copy_138 : decode cX1_copy 138 = .ok (.getfield 30, 3) := by decide +kernel
theorem dX1_copy_141 : decode cX1_copy 141 = .ok (.iconst 0, 1) := by decide +kernel
theorem dX1_copy_142 : decode cX1_copy 142 = .ok (.aload_n 0, 1) := by decide +kernel
theorem dX1_copy_143 : decode cX1_copy 143 = .ok (.getfield 30, 3) := by decide +kernel
theorem dX1_copy_146 : decode cX1_copy 146 = .ok (.iconst 0, 1) := by decide +kernel
theorem dX1_copy_147 : decode cX1_copy 147 = .ok (.iconst 3, 1) := by decide +kernel
theorem dX1_copy_148 : decode cX1_copy 148 = .ok (.invokestatic 52, 3) := by decide +kernel
theorem dX1_copy_151 : decode cX1_copy 151 = .ok (.return_, 1) := by decide +kernel
theorem dX1_isNarrow_0 : decode cX1_isNarrow 0 = .ok (.iconst 0, 1) := by decide +kernel
theorem dX1_isNarrow_1 : decode cX1_isNarrow 1 = .ok (.istore_n 2, 1) := by decide +kernel
theorem dX1_isNarrow_2 : decode cX1_isNarrow 2 = .ok (.iload_n 2, 1) := by decide +kernel
theorem dX1_isNarrow_3 : decode cX1_isNarrow 3 = .ok (.aload_n 0, 1) := by decide +kernel
theorem dX1_isNarrow_4 : decode cX1_isNarrow 4 = .ok (.getfield 37, 3) := by decide +kernel
theorem dX1_isNarrow_7 : decode cX1_isNarrow 7 = .ok (.if_icmp .ge 30, 3) := by decide +kernel
theorem dX1_isNarrow_10 : decode cX1_isNarrow 10 = .ok (.iload_n 1, 1) := by decide +kernel
theorem dX1_isNarrow_11 : decode cX1_isNarrow 11 = .ok (.aload_n 0, 1) := by decide +kernel
theorem dX1_isNarrow_12 : decode cX1_isNarrow 12 = .ok (.getfield 27, 3) := by decide +kernel
theorem dX1_isNarrow_15 : decode cX1_isNarrow 15 = .ok (.iload_n 2, 1) := by decide +kernel
theorem dX1_isNarrow_16 : decode cX1_isNarrow 16 = .ok (.iaload, 1) := by decide +kernel
theorem dX1_isNarrow_17 : decode cX1_isNarrow 17 = .ok (.aload_n 0, 1) := by decide +kernel
theorem dX1_isNarrow_18 : decode cX1_isNarrow 18 = .ok (.getfield 30, 3) := by decide +kernel
theorem dX1_isNarrow_21 : decode cX1_isNarrow 21 = .ok (.iload_n 2, 1) := by decide +kernel
theorem dX1_isNarrow_22 : decode cX1_isNarrow 22 = .ok (.iaload, 1) := by decide +kernel
theorem dX1_isNarrow_23 : decode cX1_isNarrow 23 = .ok (.invokestatic 58, 3) := by decide +kernel
theorem dX1_isNarrow_26 : decode cX1_isNarrow 26 = .ok (.ifCond .eq 5, 3) := by decide +kernel
theorem dX1_isNarrow_29 : decode cX1_isNarrow 29 = .ok (.iconst 1, 1) := by decide +kernel
theorem dX1_isNarrow_30 : decode cX1_isNarrow 30 = .ok (.ireturn, 1) := by decide +kernel
theorem dX1_isNarrow_31 : decode cX1_isNarrow 31 = .ok (.iinc 2 1, 3) := by decide +kernel
theorem dX1_isNarrow_34 : decode cX1_isNarrow 34 = .ok (.goto (-32), 3) := by decide +kernel
theorem dX1_isNarrow_37 : decode cX1_isNarrow 37 = .ok (.iconst 0, 1) := by decide +kernel
theorem dX1_isNarrow_38 : decode cX1_isNarrow 38 = .ok (.ireturn, 1) := by decide +kernel
theorem dX2_init_0 : decode cX2_init 0 = .ok (.aload_n 0, 1) := by decide +kernel
theorem dX2_init_1 : decode cX2_init 1 = .ok (.invokespecial 3, 3) := by decide +kernel
theorem dX2_init_4 : decode cX2_init 4 = .ok (.aload_n 0, 1) := by decide +kernel
theorem dX2_init_5 : decode cX2_init 5 = .ok (.bipush 6, 2) := by decide +kernel
theorem dX2_init_7 : decode cX2_init 7 = .ok (.newarray .int, 2) := by decide +kernel
theorem dX2_init_9 : decode cX2_init 9 = .ok (.putfield 9, 3) := by decide +kernel
theorem dX2_init_12 : decode cX2_init 12 = .ok (.aload_n 0, 1) := by decide +kernel
theorem dX2_init_13 : decode cX2_init 13 = .ok (.bipush 6, 2) := by decide +kernel
theorem dX2_init_15 : decode cX2_init 15 = .ok (.newarray .int, 2) := by decide +kernel
theorem dX2_init_17 : decode cX2_init 17 = .ok (.putfield 15, 3) := by decide +kernel
theorem dX2_init_20 : decode cX2_init 20 = .ok (.aload_n 0, 1) := by decide +kernel
theorem dX2_init_21 : decode cX2_init 21 = .ok (.bipush 6, 2) := by decide +kernel
theorem dX2_init_23 : decode cX2_init 23 = .ok (.newarray .int, 2) := by decide +kernel
theorem dX2_init_25 : decode cX2_init 25 = .ok (.putfield 18, 3) := by decide +kernel
theorem dX2_init_28 : decode cX2_init 28 = .ok (.aload_n 0, 1) := by decide +kernel
theorem dX2_init_29 : decode cX2_init 29 = .ok (.bipush 6, 2) := by decide +kernel
theorem dX2_init_31 : decode cX2_init 31 = .ok (.newarray .int, 2) := by decide +kernel
theorem dX2_init_33 : decode cX2_init 33 = .ok (.putfield 21, 3) := by decide +kernel
theorem dX2_init_36 : decode cX2_init 36 = .ok (.aload_n 0, 1) := by decide +kernel
theorem dX2_init_37 : decode cX2_init 37 = .ok (.bipush 6, 2) := by decide +kernel
theorem dX2_init_39 : decode cX2_init 39 = .ok (.newarray .int, 2) := by decide +kernel
theorem dX2_init_41 : decode cX2_init 41 = .ok (.putfield 24, 3) := by decide +kernel
theorem dX2_init_44 : decode cX2_init 44 = .ok (.aload_n 0, 1) := by decide +kernel
theorem dX2_init_45 : decode cX2_init 45 = .ok (.bipush 6, 2) := by decide +kernel
theorem dX2_init_47 : decode cX2_init 47 = .ok (.newarray .int, 2) := by decide +kernel
theorem dX2_init_49 : decode cX2_init 49 = .ok (.putfield 27, 3) := by decide +kernel
theorem dX2_init_52 : decode cX2_init 52 = .ok (.aload_n 0, 1) := by decide +kernel
theorem dX2_init_53 : decode cX2_init 53 = .ok (.bipush 6, 2) := by decide +kernel
theorem dX2_init_55 : decode cX2_init 55 = .ok (.newarray .int, 2) := by decide +kernel
theorem dX2_init_57 : decode cX2_init 57 = .ok (.putfield 30, 3) := by decide +kernel
theorem dX2_init_60 : decode cX2_init 60 = .ok (.aload_n 0, 1) := by decide +kernel
theorem dX2_init_61 : decode cX2_init 61 = .ok (.bipush 15, 2) := by decide +kernel
theorem dX2_init_63 : decode cX2_init 63 = .ok (.newarray .int, 2) := by decide +kernel
theorem dX2_init_65 : decode cX2_init 65 = .ok (.putfield 33, 3) := by decide +kernel
theorem dX2_init_68 : decode cX2_init 68 = .ok (.aload_n 0, 1) := by decide +kernel
theorem dX2_init_69 : decode cX2_init 69 = .ok (.bipush 15, 2) := by decide +kernel
theorem dX2_init_71 : decode cX2_init 71 = .ok (.newarray .int, 2) := by decide +kernel
theorem dX2_init_73 : decode cX2_init 73 = .ok (.putfield 36, 3) := by decide +kernel
theorem dX2_init_76 : decode cX2_init 76 = .ok (.aload_n 0, 1) := by decide +kernel
theorem dX2_init_77 : decode cX2_init 77 = .ok (.bipush 15, 2) := by decide +kernel
theorem dX2_init_79 : decode cX2_init 79 = .ok (.newarray .int, 2) := by decide +kernel
theorem dX2_init_81 : decode cX2_init 81 = .ok (.putfield 39, 3) := by decide +kernel
theorem dX2_init_84 : decode cX2_init 84 = .ok (.aload_n 0, 1) := by decide +kernel
theorem dX2_init_85 : decode cX2_init 85 = .ok (.bipush 15, 2) := by decide +kernel
theorem dX2_init_87 : decode cX2_init 87 = .ok (.newarray .int, 2) := by decide +kernel
theorem dX2_init_89 : decode cX2_init 89 = .ok (.putfield 42, 3) := by decide +kernel
theorem dX2_init_92 : decode cX2_init 92 = .ok (.aload_n 0, 1) := by decide +kernel
theorem dX2_init_93 : decode cX2_init 93 = .ok (.aload_n 1, 1) := by decide +kernel
theorem dX2_init_94 : decode cX2_init 94 = .ok (.putfield 45, 3) := by decide +kernel
theorem dX2_init_97 : decode cX2_init 97 = .ok (.aload_n 0, 1) := by decide +kernel
theorem dX2_init_98 : decode cX2_init 98 = .ok (.aload_n 2, 1) := by decide +kernel
theorem dX2_init_99 : decode cX2_init 99 = .ok (.putfield 49, 3) := by decide +kernel
theorem dX2_init_102 : decode cX2_init 102 = .ok (.return_, 1) := by decide +kernel
theorem dX2_run_0 : decode cX2_run 0 = .ok (.aload_n 0, 1) := by decide +kernel
theorem dX2_run_1 : decode cX2_run 1 = .ok (.aload_n 1, 1) := by decide +kernel
theorem dX2_run_2 : decode cX2_run 2 = .ok (.invokevirtual 53, 3) := by decide +kernel
theorem dX2_run_5 : decode cX2_run 5 = .ok (.iconst 1, 1) := by decide +kernel
theorem dX2_run_6 : decode cX2_run 6 = .ok (.istore 4, 2) := by decide +kernel
theorem dX2_run_8 : decode cX2_run 8 = .ok (.iload 4, 2) := by decide +kernel
theorem dX2_run_10 : decode cX2_run 10 = .ok (.iload_n 3, 1) := by decide +kernel
theorem dX2_run_11 : decode cX2_run 11 = .ok (.if_icmp .gt 34, 3) := by decide +kernel
theorem dX2_run_14 : decode cX2_run 14 = .ok (.aload_n 0, 1) := by decide +kernel
theorem dX2_run_15 : decode cX2_run 15 = .ok (.getfield 57, 3) := by decide +kernel
theorem dX2_run_18 : decode cX2_run 18 = .ok (.ifCond .le 27, 3) := by decide +kernel
theorem dX2_run_21 : decode cX2_run 21 = .ok (.aload_n 0, 1) := by decide +kernel
theorem dX2_run_22 : decode cX2_run 22 = .ok (.invokevirtual 61, 3) := by decide +kernel
theorem dX2_run_25 : decode cX2_run 25 = .ok (.aload_n 0, 1) := by decide +kernel
theorem dX2_run_26 : decode cX2_run 26 = .ok (.aload_n 1, 1) := by decide +kernel
theorem dX2_run_27 : decode cX2_run 27 = .ok (.iload_n 2, 1) := by decide +kernel
theorem dX2_run_28 : decode cX2_run 28 = .ok (.iload 4, 2) := by decide +kernel
theorem dX2_run_30 : decode cX2_run 30 = .ok (.invokevirtual 64, 3) := by decide +kernel
theorem dX2_run_33 : decode cX2_run 33 = .ok (.aload_n 0, 1) := by decide +kernel
theorem dX2_run_34 : decode cX2_run 34 = .ok (.iload 4, 2) := by decide +kernel
theorem dX2_run_36 : decode cX2_run 36 = .ok (.invokevirtual 68, 3) := by decide +kernel
theorem dX2_run_39 : decode cX2_run 39 = .ok (.iinc 4 1, 3) := by decide +kernel
theorem dX2_run_42 : decode cX2_run 42 = .ok (.goto (-34), 3) := by decide +kernel
theorem dX2_run_45 : decode cX2_run 45 = .ok (.aload_n 0, 1) := by decide +kernel
theorem dX2_run_46 : decode cX2_run 46 = .ok (.getfield 72, 3) := by decide +kernel
theorem dX2_run_49 : decode cX2_run 49 = .ok (.ireturn, 1) := by decide +kernel
theorem dX2_begin_0 : decode cX2_begin 0 = .ok (.aload_n 0, 1) := by decide +kernel
theorem dX2_begin_1 : decode cX2_begin 1 = .ok (.iconst 0, 1) := by decide +kernel
theorem dX2_begin_2 : decode cX2_begin 2 = .ok (.putfield 75, 3) := by decide +kernel
theorem dX2_begin_5 : decode cX2_begin 5 = .ok (.aload_n 0, 1) := by decide +kernel
theorem dX2_begin_6 : decode cX2_begin 6 = .ok (.iconst 0, 1) := by decide +kernel
theorem dX2_begin_7 : decode cX2_begin 7 = .ok (.putfield 72, 3) := by decide +kernel
theorem dX2_begin_10 : decode cX2_begin 10 = .ok (.aload_n 0, 1) := by decide +kernel
theorem dX2_begin_11 : decode cX2_begin 11 = .ok (.aload_n 0, 1) := by decide +kernel
theorem dX2_begin_12 : decode cX2_begin 12 = .ok (.getfield 45, 3) := by decide +kernel
theorem dX2_begin_15 : decode cX2_begin 15 = .ok (.getfield 78, 3) := by decide +kernel
theorem dX2_begin_18 : decode cX2_begin 18 = .ok (.putfield 57, 3) := by decide +kernel
theorem dX2_begin_21 : decode cX2_begin 21 = .ok (.iconst 0, 1) := by decide +kernel
theorem dX2_begin_22 : decode cX2_begin 22 = .ok (.istore_n 2, 1) := by decide +kernel
theorem dX2_begin_23 : decode cX2_begin 23 = .ok (.iload_n 2, 1) := by decide +kernel
theorem dX2_begin_24 : decode cX2_begin 24 = .ok (.aload_n 0, 1) := by decide +kernel
theorem dX2_begin_25 : decode cX2_begin 25 = .ok (.getfield 45, 3) := by decide +kernel
theorem dX2_begin_28 : decode cX2_begin 28 = .ok (.getfield 78, 3) := by decide +kernel
theorem dX2_begin_31 : decode cX2_begin 31 = .ok (.if_icmp .ge 77, 3) := by decide +kernel
theorem dX2_begin_34 : decode cX2_begin 34 = .ok (.aload_n 0, 1) := by decide +kernel
theorem dX2_begin_35 : decode cX2_begin 35 = .ok (.getfield 15, 3) := by decide +kernel
theorem dX2_begin_38 : decode cX2_begin 38 = .ok (.iload_n 2, 1) := by decide +kernel
theorem dX2_begin_39 : decode cX2_begin 39 = .ok (.aload_n 0, 1) := by decide +kernel
theorem dX2_begin_40 : decode cX2_begin 40 = .ok (.getfield 45, 3) := by decide +kernel
theorem dX2_begin_43 : decode cX2_begin 43 = .ok (.getfield 83, 3) := by decide +kernel
theorem dX2_begin_46 : decode cX2_begin 46 = .ok (.iload_n 2, 1) := by decide +kernel
theorem dX2_begin_47 : decode cX2_begin 47 = .ok (.iaload, 1) := by decide +kernel
theorem dX2_begin_48 : decode cX2_begin 48 = .ok (.iastore, 1) := by decide +kernel
theorem dX2_begin_49 : decode cX2_begin 49 = .ok (.aload_n 0, 1) := by decide +kernel
theorem dX2_begin_50 : decode cX2_begin 50 = .ok (.getfield 18, 3) := by decide +kernel
theorem dX2_begin_53 : decode cX2_begin 53 = .ok (.iload_n 2, 1) := by decide +kernel
theorem dX2_begin_54 : decode cX2_begin 54 = .ok (.aload_n 1, 1) := by decide +kernel
theorem dX2_begin_55 : decode cX2_begin 55 = .ok (.getfield 86, 3) := by decide +kernel
theorem dX2_begin_58 : decode cX2_begin 58 = .ok (.iload_n 2, 1) := by decide +kernel
theorem dX2_begin_59 : decode cX2_begin 59 = .ok (.iaload, 1) := by decide +kernel
theorem dX2_begin_60 : decode cX2_begin 60 = .ok (.iastore, 1) := by decide +kernel
theorem dX2_begin_61 : decode cX2_begin 61 = .ok (.aload_n 0, 1) := by decide +kernel
theorem dX2_begin_62 : decode cX2_begin 62 = .ok (.getfield 21, 3) := by decide +kernel
theorem dX2_begin_65 : decode cX2_begin 65 = .ok (.iload_n 2, 1) := by decide +kernel
theorem dX2_begin_66 : decode cX2_begin 66 = .ok (.bipush (-4), 2) := by decide +kernel
theorem dX2_begin_68 : decode cX2_begin 68 = .ok (.iastore, 1) := by decide +kernel
theorem dX2_begin_69 : decode cX2_begin 69 = .ok (.aload_n 0, 1) := by decide +kernel
theorem dX2_begin_70 : decode cX2_begin 70 = .ok (.getfield 24, 3) := by decide +kernel
theorem dX2_begin_73 : decode cX2_begin 73 = .ok (.iload_n 2, 1) := by decide +kernel
theorem dX2_begin_74 : decode cX2_begin 74 = .ok (.iconst 0, 1) := by decide +kernel
theorem dX2_begin_75 : decode cX2_begin 75 = .ok (.iastore, 1) := by decide +kernel
theorem dX2_begin_76 : decode cX2_begin 76 = .ok (.aload_n 0, 1) := by decide +kernel
theorem dX2_begin_77 : decode cX2_begin 77 = .ok (.getfield 27, 3) := by decide +kernel
theorem dX2_begin_80 : decode cX2_begin 80 = .ok (.iload_n 2, 1) := by decide +kernel
theorem dX2_begin_81 : decode cX2_begin 81 = .ok (.iconst 0, 1) := by decide +kernel
theorem dX2_begin_82 : decode cX2_begin 82 = .ok (.iastore, 1) := by decide +kernel
theorem dX2_begin_83 : decode cX2_begin 83 = .ok (.aload_n 0, 1) := by decide +kernel
theorem dX2_begin_84 : decode cX2_begin 84 = .ok (.getfield 30, 3) := by decide +kernel
theorem dX2_begin_87 : decode cX2_begin 87 = .ok (.iload_n 2, 1) := by decide +kernel
theorem dX2_begin_88 : decode cX2_begin 88 = .ok (.aload_n 0, 1) := by decide +kernel
theorem dX2_begin_89 : decode cX2_begin 89 = .ok (.iload_n 2, 1) := by decide +kernel
theorem dX2_begin_90 : decode cX2_begin 90 = .ok (.invokevirtual 91, 3) := by decide +kernel
theorem dX2_begin_93 : decode cX2_begin 93 = .ok (.ifCond .eq 7, 3) := by decide +kernel
theorem dX2_begin_96 : decode cX2_begin 96 = .ok (.iconst 0, 1) := by decide +kernel
theorem dX2_begin_97 : decode cX2_begin 97 = .ok (.goto 4, 3) := by decide +kernel
theorem dX2_begin_100 : decode cX2_begin 100 = .ok (.iconst 1, 1) := by decide +kernel
theorem dX2_begin_101 : decode cX2_begin 101 = .ok (.iastore, 1) := by decide +kernel
theorem dX2_begin_102 : decode cX2_begin 102 = .ok (.iinc 2 1, 3) := by decide +kernel
theorem dX2_begin_105 : decode cX2_begin 105 = .ok (.goto (-82), 3) := by decide +kernel
theorem dX2_begin_108 : decode cX2_begin 108 = .ok (.aload_n 0, 1) := by decide +kernel
theorem dX2_begin_109 : decode cX2_begin 109 = .ok (.iconst 0, 1) := by decide +kernel
theorem dX2_begin_110 : decode cX2_begin 110 = .ok (.invokevirtual 68, 3) := by decide +kernel
theorem dX2_begin_113 : decode cX2_begin 113 = .ok (.return_, 1) := by decide +kernel
theorem dX2_goOn_0 : decode cX2_goOn 0 = .ok (.iconst 0, 1) := by decide +kernel
theorem dX2_goOn_1 : decode cX2_goOn 1 = .ok (.istore_n 1, 1) := by decide +kernel
theorem dX2_goOn_2 : decode cX2_goOn 2 = .ok (.iload_n 1, 1) := by decide +kernel
theorem dX2_goOn_3 : decode cX2_goOn 3 = .ok (.aload_n 0, 1) := by decide +kernel
theorem dX2_goOn_4 : decode cX2_goOn 4 = .ok (.getfield 45, 3) := by decide +kernel
theorem dX2_goOn_7 : decode cX2_goOn 7 = .ok (.getfield 78, 3) := by decide +kernel
theorem dX2_goOn_10 : decode cX2_goOn 10 = .ok (.if_icmp .ge 125, 3) := by decide +kernel
theorem dX2_goOn_13 : decode cX2_goOn 13 = .ok (.aload_n 0, 1) := by decide +kernel
theorem dX2_goOn_14 : decode cX2_goOn 14 = .ok (.getfield 9, 3) := by decide +kernel
theorem dX2_goOn_17 : decode cX2_goOn 17 = .ok (.iload_n 1, 1) := by decide +kernel
theorem dX2_goOn_18 : decode cX2_goOn 18 = .ok (.aload_n 0, 1) := by decide +kernel
theorem dX2_goOn_19 : decode cX2_goOn 19 = .ok (.getfield 15, 3) := by decide +kernel
theorem dX2_goOn_22 : decode cX2_goOn 22 = .ok (.iload_n 1, 1) := by decide +kernel
theorem dX2_goOn_23 : decode cX2_goOn 23 = .ok (.iaload, 1) := by decide +kernel
theorem dX2_goOn_24 : decode cX2_goOn 24 = .ok (.iastore, 1) := by decide +kernel
theorem dX2_goOn_25 : decode cX2_goOn 25 = .ok (.aload_n 0, 1) := by decide +kernel
theorem dX2_goOn_26 : decode cX2_goOn 26 = .ok (.getfield 21, 3) := by decide +kernel
theorem dX2_goOn_29 : decode cX2_goOn 29 = .ok (.iload_n 1, 1) := by decide +kernel
theorem dX2_goOn_30 : decode cX2_goOn 30 = .ok (.iaload, 1) := by decide +kernel
theorem dX2_goOn_31 : decode cX2_goOn 31 = .ok (.bipush (-4), 2) := by decide +kernel
theorem dX2_goOn_33 : decode cX2_goOn 33 = .ok (.if_icmp .eq 6, 3) := by decide +kernel
theorem dX2_goOn_36 : decode cX2_goOn 36 = .ok (.goto 93, 3) := by decide +kernel
theorem dX2_goOn_39 : decode cX2_goOn 39 = .ok (.aload_n 0, 1) := by decide +kernel
theorem dX2_goOn_40 : decode cX2_goOn 40 = .ok (.getfield 18, 3) := by decide +kernel
theorem dX2_goOn_43 : decode cX2_goOn 43 = .ok (.iload_n 1, 1) := by decide +kernel
theorem dX2_goOn_44 : decode cX2_goOn 44 = .ok (.iaload, 1) := by decide +kernel
theorem dX2_goOn_45 : decode cX2_goOn 45 = .ok (.ifCond .le 16, 3) := by decide +kernel
theorem dX2_goOn_48 : decode cX2_goOn 48 = .ok (.aload_n 0, 1) := by decide +kernel
theorem dX2_goOn_49 : decode cX2_goOn 49 = .ok (.getfield 18, 3) := by decide +kernel
theorem dX2_goOn_52 : decode cX2_goOn 52 = .ok (.iload_n 1, 1) := by decide +kernel
theorem dX2_goOn_53 : decode cX2_goOn 53 = .ok (.dup2, 1) := by decide +kernel
theorem dX2_goOn_54 : decode cX2_goOn 54 = .ok (.iaload, 1) := by decide +kernel
theorem dX2_goOn_55 : decode cX2_goOn 55 = .ok (.iconst 1, 1) := by decide +kernel
theorem dX2_goOn_56 : decode cX2_goOn 56 = .ok (.isub, 1) := by decide +kernel
theorem dX2_goOn_57 : decode cX2_goOn 57 = .ok (.iastore, 1) := by decide +kernel
theorem dX2_goOn_58 : decode cX2_goOn 58 = .ok (.goto 71, 3) := by decide +kernel
theorem dX2_goOn_61 : decode cX2_goOn 61 = .ok (.aload_n 0, 1) := by decide +kernel
theorem dX2_goOn_62 : decode cX2_goOn 62 = .ok (.getfield 45, 3) := by decide +kernel
theorem dX2_goOn_65 : decode cX2_goOn 65 = .ok (.getfield 95, 3) := by decide +kernel
theorem dX2_goOn_68 : decode cX2_goOn 68 = .ok (.iload_n 1, 1) := by decide +kernel
theorem dX2_goOn_69 : decode cX2_goOn 69 = .ok (.iaload, 1) := by decide +kernel
theorem dX2_goOn_70 : decode cX2_goOn 70 = .ok (.ifCond .ne 33, 3) := by decide +kernel
theorem dX2_goOn_73 : decode cX2_goOn 73 = .ok (.aload_n 0, 1) := by decide +kernel
theorem dX2_goOn_74 : decode cX2_goOn 74 = .ok (.getfield 15, 3) := by decide +kernel
theorem dX2_goOn_77 : decode cX2_goOn 77 = .ok (.iload_n 1, 1) := by decide +kernel
theorem dX2_goOn_78 : decode cX2_goOn 78 = .ok (.aload_n 0, 1) := by decide +kernel
theorem dX2_goOn_79 : decode cX2_goOn 79 = .ok (.getfield 15, 3) := by decide +kernel
theorem dX2_goOn_82 : decode cX2_goOn 82 = .ok (.iload_n 1, 1) := by decide +kernel
theorem dX2_goOn_83 : decode cX2_goOn 83 = .ok (.iaload, 1) := by decide +kernel
theorem dX2_goOn_84 : decode cX2_goOn 84 = .ok (.aload_n 0, 1) := by decide +kernel
theorem dX2_goOn_85 : decode cX2_goOn 85 = .ok (.getfield 45, 3) := by decide +kernel
theorem dX2_goOn_88 : decode cX2_goOn 88 = .ok (.getfield 98, 3) := by decide +kernel
theorem dX2_goOn_91 : decode cX2_goOn 91 = .ok (.iload_n 1, 1) := by decide +kernel
theorem dX2_goOn_92 : decode cX2_goOn 92 = .ok (.iaload, 1) := by decide +kernel
theorem dX2_goOn_93 : decode cX2_goOn 93 = .ok (.iadd, 1) := by decide +kernel
theorem dX2_goOn_94 : decode cX2_goOn 94 = .ok (.bipush 60, 2) := by decide +kernel
theorem dX2_goOn_96 : decode cX2_goOn 96 = .ok (.invokestatic 101, 3) := by decide +kernel
theorem dX2_goOn_99 : decode cX2_goOn 99 = .ok (.iastore, 1) := by decide +kernel
theorem dX2_goOn_100 : decode cX2_goOn 100 = .ok (.goto 29, 3) := by decide +kernel
theorem dX2_goOn_103 : decode cX2_goOn 103 = .ok (.aload_n 0, 1) := by decide +kernel
theorem dX2_goOn_104 : decode cX2_goOn 104 = .ok (.getfield 15, 3) := by decide +kernel
theorem dX2_goOn_107 : decode cX2_goOn 107 = .ok (.iload_n 1, 1) := by decide +kernel
theorem dX2_goOn_108 : decode cX2_goOn 108 = .ok (.aload_n 0, 1) := by decide +kernel
theorem dX2_goOn_109 : decode cX2_goOn 109 = .ok (.getfield 15, 3) := by decide +kernel
theorem dX2_goOn_112 : decode cX2_goOn 112 = .ok (.iload_n 1, 1) := by decide +kernel
theorem dX2_goOn_113 : decode cX2_goOn 113 = .ok (.iaload, 1) := by decide +kernel
theorem dX2_goOn_114 : decode cX2_goOn 114 = .ok (.aload_n 0, 1) := by decide +kernel
theorem dX2_goOn_115 : decode cX2_goOn 115 = .ok (.getfield 45, 3) := by decide +kernel
theorem dX2_goOn_118 : decode cX2_goOn 118 = .ok (.getfield 98, 3) := by decide +kernel
theorem dX2_goOn_121 : decode cX2_goOn 121 = .ok (.iload_n 1, 1) := by decide +kernel
theorem dX2_goOn_122 : decode cX2_goOn 122 = .ok (.iaload, 1) := by decide +kernel
theorem dX2_goOn_123 : decode cX2_goOn 123 = .ok (.isub, 1) := by decide +kernel
theorem dX2_goOn_124 : decode cX2_goOn 124 = .ok (.iconst 0, 1) := by decide +kernel
theorem dX2_goOn_125 : decode cX2_goOn 125 = .ok (.invokestatic 107, 3) := by decide +kernel
theorem dX2_goOn_128 : decode cX2_goOn 128 = .ok (.iastore, 1) := by decide +kernel
theorem dX2_goOn_129 : decode cX2_goOn 129 = .ok (.iinc 1 1, 3) := by decide +kernel
theorem dX2_goOn_132 : decode cX2_goOn 132 = .ok (.goto (-130), 3) := by decide +kernel
theorem dX2_goOn_135 : decode cX2_goOn 135 = .ok (.return_, 1) := by decide +kernel
theorem dX2_meetAll_0 : decode cX2_meetAll 0 = .ok (.iconst 0, 1) := by decide +kernel
theorem dX2_meetAll_1 : decode cX2_meetAll 1 = .ok (.istore 4, 2) := by decide +kernel
theorem dX2_meetAll_3 : decode cX2_meetAll 3 = .ok (.iload 4, 2) := by decide +kernel
theorem dX2_meetAll_5 : decode cX2_meetAll 5 = .ok (.aload_n 0, 1) := by decide +kernel
theorem dX2_meetAll_6 : decode cX2_meetAll 6 = .ok (.getfield 45, 3) := by decide +kernel
theorem dX2_meetAll_9 : decode cX2_meetAll 9 = .ok (.getfield 78, 3) := by decide +kernel
theorem dX2_meetAll_12 : decode cX2_meetAll 12 = .ok (.if_icmp .ge 78, 3) := by decide +kernel
theorem dX2_meetAll_15 : decode cX2_meetAll 15 = .ok (.iload 4, 2) := by decide +kernel
theorem dX2_meetAll_17 : decode cX2_meetAll 17 = .ok (.iconst 1, 1) := by decide +kernel
theorem dX2_meetAll_18 : decode cX2_meetAll 18 = .ok (.iadd, 1) := by decide +kernel
theorem dX2_meetAll_19 : decode cX2_meetAll 19 = .ok (.istore 5, 2) := by decide +kernel
theorem dX2_meetAll_21 : decode cX2_meetAll 21 = .ok (.iload 5, 2) := by decide +kernel
theorem dX2_meetAll_23 : decode cX2_meetAll 23 = .ok (.aload_n 0, 1) := by decide +kernel
theorem dX2_meetAll_24 : decode cX2_meetAll 24 = .ok (.getfield 45, 3) := by decide +kernel
theorem dX2_meetAll_27 : decode cX2_meetAll 27 = .ok (.getfield 78, 3) := by decide +kernel
theorem dX2_meetAll_30 : decode cX2_meetAll 30 = .ok (.if_icmp .ge 54, 3) := by decide +kernel
theorem dX2_meetAll_33 : decode cX2_meetAll 33 = .ok (.aload_n 0, 1) := by decide +kernel
theorem dX2_meetAll_34 : decode cX2_meetAll 34 = .ok (.getfield 45, 3) := by decide +kernel
theorem dX2_meetAll_37 : decode cX2_meetAll 37 = .ok (.getfield 95, 3) := by decide +kernel
theorem dX2_meetAll_40 : decode cX2_meetAll 40 = .ok (.iload 4, 2) := by decide +kernel
theorem dX2_meetAll_42 : decode cX2_meetAll 42 = .ok (.iaload, 1) := by decide +kernel
theorem dX2_meetAll_43 : decode cX2_meetAll 43 = .ok (.aload_n 0, 1) := by decide +kernel
theorem dX2_meetAll_44 : decode cX2_meetAll 44 = .ok (.getfield 45, 3) := by decide +kernel
theorem dX2_meetAll_47 : decode cX2_meetAll 47 = .ok (.getfield 95, 3) := by decide +kernel
theorem dX2_meetAll_50 : decode cX2_meetAll 50 = .ok (.iload 5, 2) := by decide +kernel
theorem dX2_meetAll_52 : decode cX2_meetAll 52 = .ok (.iaload, 1) := by decide +kernel
theorem dX2_meetAll_53 : decode cX2_meetAll 53 = .ok (.if_icmp .eq 25, 3) := by decide +kernel
theorem dX2_meetAll_56 : decode cX2_meetAll 56 = .ok (.aload_n 0, 1) := by decide +kernel
theorem dX2_meetAll_57 : decode cX2_meetAll 57 = .ok (.iload 4, 2) := by decide +kernel
theorem dX2_meetAll_59 : decode cX2_meetAll 59 = .ok (.iload 5, 2) := by decide +kernel
theorem dX2_meetAll_61 : decode cX2_meetAll 61 = .ok (.invokevirtual 110, 3) := by decide +kernel
theorem dX2_meetAll_64 : decode cX2_meetAll 64 = .ok (.ifCond .eq 14, 3) := by decide +kernel
theorem dX2_meetAll_67 : decode cX2_meetAll 67 = .ok (.aload_n 0, 1) := by decide +kernel
theorem dX2_meetAll_68 : decode cX2_meetAll 68 = .ok (.aload_n 1, 1) := by decide +kernel
theorem dX2_meetAll_69 : decode cX2_meetAll 69 = .ok (.iload_n 2, 1) := by decide +kernel
theorem dX2_meetAll_70 : decode cX2_meetAll 70 = .ok (.iload_n 3, 1) := by decide +kernel
theorem dX2_meetAll_71 : decode cX2_meetAll 71 = .ok (.iload 4, 2) := by decide +kernel
theorem dX2_meetAll_73 : decode cX2_meetAll 73 = .ok (.iload 5, 2) := by decide +kernel
theorem dX2_meetAll_75 : decode cX2_meetAll 75 = .ok (.invokevirtual 114, 3) := by decide +kernel
theorem dX2_meetAll_78 : decode cX2_meetAll 78 = .ok (.iinc 5 1, 3) := by decide +kernel
theorem dX2_meetAll_81 : decode cX2_meetAll 81 = .ok (.goto (-60), 3) := by decide +kernel
theorem dX2_meetAll_84 : decode cX2_meetAll 84 = .ok (.iinc 4 1, 3) := by decide +kernel
theorem dX2_meetAll_87 : decode cX2_meetAll 87 = .ok (.goto (-84), 3) := by decide +kernel
theorem dX2_meetAll_90 : decode cX2_meetAll 90 = .ok (.return_, 1) := by decide +kernel
theorem dX2_doMeet_0 : decode cX2_doMeet 0 = .ok (.aload_n 0, 1) := by decide +kernel
theorem dX2_doMeet_1 : decode cX2_doMeet 1 = .ok (.getfield 21, 3) := by decide +kernel
theorem dX2_doMeet_4 : decode cX2_doMeet 4 = .ok (.iload_n 1, 1) := by decide +kernel
theorem dX2_doMeet_5 : decode cX2_doMeet 5 = .ok (.iaload, 1) := by decide +kernel
theorem dX2_doMeet_6 : decode cX2_doMeet 6 = .ok (.bipush (-4), 2) := by decide +kernel
theorem dX2_doMeet_8 : decode cX2_doMeet 8 = .ok (.if_icmp .ne 14, 3) := by decide +kernel
theorem dX2_doMeet_11 : decode cX2_doMeet 11 = .ok (.aload_n 0, 1) := by decide +kernel
theorem dX2_doMeet_12 : decode cX2_doMeet 12 = .ok (.getfield 21, 3) := by decide +kernel
theorem dX2_doMeet_15 : decode cX2_doMeet 15 = .ok (.iload_n 2, 1) := by decide +kernel
theorem dX2_doMeet_16 : decode cX2_doMeet 16 = .ok (.iaload, 1) := by decide +kernel
theorem dX2_doMeet_17 : decode cX2_doMeet 17 = .ok (.bipush (-4), 2) := by decide +kernel
theorem dX2_doMeet_19 : decode cX2_doMeet 19 = .ok (.if_icmp .eq 5, 3) := by decide +kernel
theorem dX2_doMeet_22 : decode cX2_doMeet 22 = .ok (.iconst 0, 1) := by decide +kernel
theorem dX2_doMeet_23 : decode cX2_doMeet 23 = .ok (.ireturn, 1) := by decide +kernel
theorem dX2_doMeet_24 : decode cX2_doMeet 24 = .ok (.aload_n 0, 1) := by decide +kernel
theorem dX2_doMeet_25 : decode cX2_doMeet 25 = .ok (.getfield 45, 3) := by decide +kernel
theorem dX2_doMeet_28 : decode cX2_doMeet 28 = .ok (.getfield 95, 3) := by decide +kernel
theorem dX2_doMeet_31 : decode cX2_doMeet 31 = .ok (.iload_n 1, 1) := by decide +kernel
theorem dX2_doMeet_32 : decode cX2_doMeet 32 = .ok (.iaload, 1) := by decide +kernel
theorem dX2_doMeet_33 : decode cX2_doMeet 33 = .ok (.ifCond .ne 7, 3) := by decide +kernel
theorem dX2_doMeet_36 : decode cX2_doMeet 36 = .ok (.iload_n 1, 1) := by decide +kernel
theorem dX2_doMeet_37 : decode cX2_doMeet 37 = .ok (.goto 4, 3) := by decide +kernel
theorem dX2_doMeet_40 : decode cX2_doMeet 40 = .ok (.iload_n 2, 1) := by decide +kernel
theorem dX2_doMeet_41 : decode cX2_doMeet 41 = .ok (.istore_n 3, 1) := by decide +kernel
theorem dX2_doMeet_42 : decode cX2_doMeet 42 = .ok (.aload_n 0, 1) := by decide +kernel
theorem dX2_doMeet_43 : decode cX2_doMeet 43 = .ok (.getfield 45, 3) := by decide +kernel
theorem dX2_doMeet_46 : decode cX2_doMeet 46 = .ok (.getfield 95, 3) := by decide +kernel
theorem dX2_doMeet_49 : decode cX2_doMeet 49 = .ok (.iload_n 1, 1) := by decide +kernel
theorem dX2_doMeet_50 : decode cX2_doMeet 50 = .ok (.iaload, 1) := by decide +kernel
theorem dX2_doMeet_51 : decode cX2_doMeet 51 = .ok (.ifCond .ne 7, 3) := by decide +kernel
theorem dX2_doMeet_54 : decode cX2_doMeet 54 = .ok (.iload_n 2, 1) := by decide +kernel
theorem dX2_doMeet_55 : decode cX2_doMeet 55 = .ok (.goto 4, 3) := by decide +kernel
theorem dX2_doMeet_58 : decode cX2_doMeet 58 = .ok (.iload_n 1, 1) := by decide +kernel
theorem dX2_doMeet_59 : decode cX2_doMeet 59 = .ok (.istore 4, 2) := by decide +kernel
theorem dX2_doMeet_61 : decode cX2_doMeet 61 = .ok (.aload_n 0, 1) := by decide +kernel
theorem dX2_doMeet_62 : decode cX2_doMeet 62 = .ok (.getfield 9, 3) := by decide +kernel
theorem dX2_doMeet_65 : decode cX2_doMeet 65 = .ok (.iload_n 3, 1) := by decide +kernel
theorem dX2_doMeet_66 : decode cX2_doMeet 66 = .ok (.iaload, 1) := by decide +kernel
theorem dX2_doMeet_67 : decode cX2_doMeet 67 = .ok (.aload_n 0, 1) := by decide +kernel
theorem dX2_doMeet_68 : decode cX2_doMeet 68 = .ok (.getfield 9, 3) := by decide +kernel
theorem dX2_doMeet_71 : decode cX2_doMeet 71 = .ok (.iload 4, 2) := by decide +kernel
theorem dX2_doMeet_73 : decode cX2_doMeet 73 = .ok (.iaload, 1) := by decide +kernel
theorem dX2_doMeet_74 : decode cX2_doMeet 74 = .ok (.if_icmp .ge 23, 3) := by decide +kernel
theorem dX2_doMeet_77 : decode cX2_doMeet 77 = .ok (.aload_n 0, 1) := by decide +kernel
theorem dX2_doMeet_78 : decode cX2_doMeet 78 = .ok (.getfield 15, 3) := by decide +kernel
theorem dX2_doMeet_81 : decode cX2_doMeet 81 = .ok (.iload_n 3, 1) := by decide +kernel
theorem dX2_doMeet_82 : decode cX2_doMeet 82 = .ok (.iaload, 1) := by decide +kernel
theorem dX2_doMeet_83 : decode cX2_doMeet 83 = .ok (.aload_n 0, 1) := by decide +kernel
theorem dX2_doMeet_84 : decode cX2_doMeet 84 = .ok (.getfield 15, 3) := by decide +kernel
theorem dX2_doMeet_87 : decode cX2_doMeet 87 = .ok (.iload 4, 2) := by decide +kernel
theorem dX2_doMeet_89 : decode cX2_doMeet 89 = .ok (.iaload, 1) := by decide +kernel
theorem dX2_doMeet_90 : decode cX2_doMeet 90 = .ok (.if_icmp .lt 7, 3) := by decide +kernel
theorem dX2_doMeet_93 : decode cX2_doMeet 93 = .ok (.iconst 1, 1) := by decide +kernel
theorem dX2_doMeet_94 : decode cX2_doMeet 94 = .ok (.goto 4, 3) := by decide +kernel
theorem dX2_doMeet_97 : decode cX2_doMeet 97 = .ok (.iconst 0, 1) := by decide +kernel
theorem dX2_doMeet_98 : decode cX2_doMeet 98 = .ok (.ireturn, 1) := by decide +kernel
theorem dX2_meet_0 : decode cX2_meet 0 = .ok (.aload_n 0, 1) := by decide +kernel
theorem dX2_meet_1 : decode cX2_meet 1 = .ok (.getfield 49, 3) := by decide +kernel
theorem dX2_meet_4 : decode cX2_meet 4 = .ok (.aload_n 1, 1) := by decide +kernel
theorem dX2_meet_5 : decode cX2_meet 5 = .ok (.iload_n 2, 1) := by decide +kernel
theorem dX2_meet_6 : decode cX2_meet 6 = .ok (.iload 4, 2) := by decide +kernel
theorem dX2_meet_8 : decode cX2_meet 8 = .ok (.iload 5, 2) := by decide +kernel
theorem dX2_meet_10 : decode cX2_meet 10 = .ok (.invokevirtual 118, 3) := by decide +kernel
theorem dX2_meet_13 : decode cX2_meet 13 = .ok (.istore 6, 2) := by decide +kernel
theorem dX2_meet_15 : decode cX2_meet 15 = .ok (.iload 6, 2) := by decide +kernel
theorem dX2_meet_17 : decode cX2_meet 17 = .ok (.bipush (-4), 2) := by decide +kernel
theorem dX2_meet_19 : decode cX2_meet 19 = .ok (.if_icmp .ne 71, 3) := by decide +kernel
theorem dX2_meet_22 : decode cX2_meet 22 = .ok (.aload_n 0, 1) := by decide +kernel
theorem dX2_meet_23 : decode cX2_meet 23 = .ok (.getfield 45, 3) := by decide +kernel
theorem dX2_meet_26 : decode cX2_meet 26 = .ok (.getfield 124, 3) := by decide +kernel
theorem dX2_meet_29 : decode cX2_meet 29 = .ok (.aload_n 0, 1) := by decide +kernel
theorem dX2_meet_30 : decode cX2_meet 30 = .ok (.getfield 45, 3) := by decide +kernel
theorem dX2_meet_33 : decode cX2_meet 33 = .ok (.aload_n 0, 1) := by decide +kernel
theorem dX2_meet_34 : decode cX2_meet 34 = .ok (.getfield 15, 3) := by decide +kernel
theorem dX2_meet_37 : decode cX2_meet 37 = .ok (.iload 4, 2) := by decide +kernel
theorem dX2_meet_39 : decode cX2_meet 39 = .ok (.iaload, 1) := by decide +kernel
theorem dX2_meet_40 : decode cX2_meet 40 = .ok (.invokevirtual 127, 3) := by decide +kernel
theorem dX2_meet_43 : decode cX2_meet 43 = .ok (.ifCond .ne 20, 3) := by decide +kernel
theorem dX2_meet_46 : decode cX2_meet 46 = .ok (.aload_n 0, 1) := by decide +kernel
theorem dX2_meet_47 : decode cX2_meet 47 = .ok (.getfield 45, 3) := by decide +kernel
theorem dX2_meet_50 : decode cX2_meet 50 = .ok (.aload_n 0, 1) := by decide +kernel
theorem dX2_meet_51 : decode cX2_meet 51 = .ok (.getfield 15, 3) := by decide +kernel
theorem dX2_meet_54 : decode cX2_meet 54 = .ok (.iload 5, 2) := by decide +kernel
theorem dX2_meet_56 : decode cX2_meet 56 = .ok (.iaload, 1) := by decide +kernel
theorem dX2_meet_57 : decode cX2_meet 57 = .ok (.invokevirtual 127, 3) := by decide +kernel
theorem dX2_meet_60 : decode cX2_meet 60 = .ok (.ifCond .eq 7, 3) := by decide +kernel
theorem dX2_meet_63 : decode cX2_meet 63 = .ok (.iconst 3, 1) := by decide +kernel
theorem dX2_meet_64 : decode cX2_meet 64 = .ok (.goto 4, 3) := by decide +kernel
theorem dX2_meet_67 : decode cX2_meet 67 = .ok (.iconst 0, 1) := by decide +kernel
theorem dX2_meet_68 : decode cX2_meet 68 = .ok (.iadd, 1) := by decide +kernel
theorem dX2_meet_69 : decode cX2_meet 69 = .ok (.istore 7, 2) := by decide +kernel
theorem dX2_meet_71 : decode cX2_meet 71 = .ok (.aload_n 0, 1) := by decide +kernel
theorem dX2_meet_72 : decode cX2_meet 72 = .ok (.iload 4, 2) := by decide +kernel
theorem dX2_meet_74 : decode cX2_meet 74 = .ok (.iload 7, 2) := by decide +kernel
theorem dX2_meet_76 : decode cX2_meet 76 = .ok (.invokevirtual 130, 3) := by decide +kernel
theorem dX2_meet_79 : decode cX2_meet 79 = .ok (.aload_n 0, 1) := by decide +kernel
theorem dX2_meet_80 : decode cX2_meet 80 = .ok (.iload 5, 2) := by decide +kernel
theorem dX2_meet_82 : decode cX2_meet 82 = .ok (.iload 7, 2) := by decide +kernel
theorem dX2_meet_84 : decode cX2_meet 84 = .ok (.invokevirtual 130, 3) := by decide +kernel
theorem dX2_meet_87 : decode cX2_meet 87 = .ok (.goto 82, 3) := by decide +kernel
theorem dX2_meet_90 : decode cX2_meet 90 = .ok (.aload_n 0, 1) := by decide +kernel
theorem dX2_meet_91 : decode cX2_meet 91 = .ok (.getfield 45, 3) := by decide +kernel
theorem dX2_meet_94 : decode cX2_meet 94 = .ok (.aload_n 0, 1) := by decide +kernel
theorem dX2_meet_95 : decode cX2_meet 95 = .ok (.getfield 15, 3) := by decide +kernel
theorem dX2_meet_98 : decode cX2_meet 98 = .ok (.iload 6, 2) := by decide +kernel
theorem dX2_meet_100 : decode cX2_meet 100 = .ok (.iaload, 1) := by decide +kernel
theorem dX2_meet_101 : decode cX2_meet 101 = .ok (.invokevirtual 127, 3) := by decide +kernel
theorem dX2_meet_104 : decode cX2_meet 104 = .ok (.ifCond .eq 7, 3) := by decide +kernel
theorem dX2_meet_107 : decode cX2_meet 107 = .ok (.iconst 3, 1) := by decide +kernel
theorem dX2_meet_108 : decode cX2_meet 108 = .ok (.goto 4, 3) := by decide +kernel
theorem dX2_meet_111 : decode cX2_meet 111 = .ok (.iconst 0, 1) := by decide +kernel
theorem dX2_meet_112 : decode cX2_meet 112 = .ok (.istore 7, 2) := by decide +kernel
theorem dX2_meet_114 : decode cX2_meet 114 = .ok (.aload_n 0, 1) := by decide +kernel
theorem dX2_meet_115 : decode cX2_meet 115 = .ok (.iload 6, 2) := by decide +kernel
theorem dX2_meet_117 : decode cX2_meet 117 = .ok (.aload_n 0, 1) := by decide +kernel
theorem dX2_meet_118 : decode cX2_meet 118 = .ok (.getfield 45, 3) := by decide +kernel
theorem dX2_meet_121 : decode cX2_meet 121 = .ok (.getfield 134, 3) := by decide +kernel
theorem dX2_meet_124 : decode cX2_meet 124 = .ok (.aload_n 1, 1) := by decide +kernel
theorem dX2_meet_125 : decode cX2_meet 125 = .ok (.getfield 137, 3) := by decide +kernel
theorem dX2_meet_128 : decode cX2_meet 128 = .ok (.iload 6, 2) := by decide +kernel
theorem dX2_meet_130 : decode cX2_meet 130 = .ok (.iaload, 1) := by decide +kernel
theorem dX2_meet_131 : decode cX2_meet 131 = .ok (.iadd, 1) := by decide +kernel
theorem dX2_meet_132 : decode cX2_meet 132 = .ok (.iload 7, 2) := by decide +kernel
theorem dX2_meet_134 : decode cX2_meet 134 = .ok (.iadd, 1) := by decide +kernel
theorem dX2_meet_135 : decode cX2_meet 135 = .ok (.invokevirtual 130, 3) := by decide +kernel
theorem dX2_meet_138 : decode cX2_meet 138 = .ok (.aload_n 0, 1) := by decide +kernel
theorem dX2_meet_139 : decode cX2_meet 139 = .ok (.iload 6, 2) := by decide +kernel
theorem dX2_meet_141 : decode cX2_meet 141 = .ok (.iload 4, 2) := by decide +kernel
theorem dX2_meet_143 : decode cX2_meet 143 = .ok (.if_icmp .ne 8, 3) := by decide +kernel
theorem dX2_meet_146 : decode cX2_meet 146 = .ok (.iload 5, 2) := by decide +kernel
theorem dX2_meet_148 : decode cX2_meet 148 = .ok (.goto 5, 3) := by decide +kernel
theorem dX2_meet_151 : decode cX2_meet 151 = .ok (.iload 4, 2) := by decide +kernel
theorem dX2_meet_153 : decode cX2_meet 153 = .ok (.iload 7, 2) := by decide +kernel
theorem dX2_meet_155 : decode cX2_meet 155 = .ok (.invokevirtual 130, 3) := by decide +kernel
theorem dX2_meet_158 : decode cX2_meet 158 = .ok (.aload_n 0, 1) := by decide +kernel
theorem dX2_meet_159 : decode cX2_meet 159 = .ok (.getfield 27, 3) := by decide +kernel
theorem dX2_meet_162 : decode cX2_meet 162 = .ok (.iload 6, 2) := by decide +kernel
theorem dX2_meet_164 : decode cX2_meet 164 = .ok (.dup2, 1) := by decide +kernel
theorem dX2_meet_165 : decode cX2_meet 165 = .ok (.iaload, 1) := by decide +kernel
theorem dX2_meet_166 : decode cX2_meet 166 = .ok (.iconst 1, 1) := by decide +kernel
theorem dX2_meet_167 : decode cX2_meet 167 = .ok (.iadd, 1) := by decide +kernel
theorem dX2_meet_168 : decode cX2_meet 168 = .ok (.iastore, 1) := by decide +kernel
theorem dX2_meet_169 : decode cX2_meet 169 = .ok (.aload_n 0, 1) := by decide +kernel
theorem dX2_meet_170 : decode cX2_meet 170 = .ok (.iload_n 3, 1) := by decide +kernel
theorem dX2_meet_171 : decode cX2_meet 171 = .ok (.bipush 8, 2) := by decide +kernel
theorem dX2_meet_173 : decode cX2_meet 173 = .ok (.iload 4, 2) := by decide +kernel
theorem dX2_meet_175 : decode cX2_meet 175 = .ok (.imul, 1) := by decide +kernel
theorem dX2_meet_176 : decode cX2_meet 176 = .ok (.iload 5, 2) := by decide +kernel
theorem dX2_meet_178 : decode cX2_meet 178 = .ok (.iadd, 1) := by decide +kernel
theorem dX2_meet_179 : decode cX2_meet 179 = .ok (.iload 6, 2) := by decide +kernel
theorem dX2_meet_181 : decode cX2_meet 181 = .ok (.aload_n 0, 1) := by decide +kernel
theorem dX2_meet_182 : decode cX2_meet 182 = .ok (.getfield 15, 3) := by decide +kernel
theorem dX2_meet_185 : decode cX2_meet 185 = .ok (.aload_n 0, 1) := by decide +kernel
theorem dX2_meet_186 : decode cX2_meet 186 = .ok (.getfield 45, 3) := by decide +kernel
theorem dX2_meet_189 : decode cX2_meet 189 = .ok (.getfield 95, 3) := by decide +kernel
theorem dX2_meet_192 : decode cX2_meet 192 = .ok (.iload 4, 2) := by decide +kernel
theorem dX2_meet_194 : decode cX2_meet 194 = .ok (.iaload, 1) := by decide +kernel
theorem dX2_meet_195 : decode cX2_meet 195 = .ok (.ifCond .ne 8, 3) := by decide +kernel
theorem dX2_meet_198 : decode cX2_meet 198 = .ok (.iload 4, 2) := by decide +kernel
theorem dX2_meet_200 : decode cX2_meet 200 = .ok (.goto 5, 3) := by decide +kernel
theorem dX2_meet_203 : decode cX2_meet 203 = .ok (.iload 5, 2) := by decide +kernel
theorem dX2_meet_205 : decode cX2_meet 205 = .ok (.iaload, 1) := by decide +kernel
theorem dX2_meet_206 : decode cX2_meet 206 = .ok (.invokevirtual 140, 3) := by decide +kernel
theorem dX2_meet_209 : decode cX2_meet 209 = .ok (.return_, 1) := by decide +kernel
theorem dX2_makeStand_0 : decode cX2_makeStand 0 = .ok (.iload_n 2, 1) := by decide +kernel
theorem dX2_makeStand_1 : decode cX2_makeStand 1 = .ok (.ifCond .gt 4, 3) := by decide +kernel
theorem dX2_makeStand_4 : decode cX2_makeStand 4 = .ok (.return_, 1) := by decide +kernel
theorem dX2_makeStand_5 : decode cX2_makeStand 5 = .ok (.aload_n 0, 1) := by decide +kernel
theorem dX2_makeStand_6 : decode cX2_makeStand 6 = .ok (.getfield 18, 3) := by decide +kernel
theorem dX2_makeStand_9 : decode cX2_makeStand 9 = .ok (.iload_n 1, 1) := by decide +kernel
theorem dX2_makeStand_10 : decode cX2_makeStand 10 = .ok (.iaload, 1) := by decide +kernel
theorem dX2_makeStand_11 : decode cX2_makeStand 11 = .ok (.ifCond .ne 21, 3) := by decide +kernel
theorem dX2_makeStand_14 : decode cX2_makeStand 14 = .ok (.aload_n 0, 1) := by decide +kernel
theorem dX2_makeStand_15 : decode cX2_makeStand 15 = .ok (.iload_n 1, 1) := by decide +kernel
theorem dX2_makeStand_16 : decode cX2_makeStand 16 = .ok (.invokevirtual 91, 3) := by decide +kernel
theorem dX2_makeStand_19 : decode cX2_makeStand 19 = .ok (.ifCond .ne 13, 3) := by decide +kernel
theorem dX2_makeStand_22 : decode cX2_makeStand 22 = .ok (.aload_n 0, 1) := by decide +kernel
theorem dX2_makeStand_23 : decode cX2_makeStand 23 = .ok (.getfield 30, 3) := by decide +kernel
theorem dX2_makeStand_26 : decode cX2_makeStand 26 = .ok (.iload_n 1, 1) := by decide +kernel
theorem dX2_makeStand_27 : decode cX2_makeStand 27 = .ok (.dup2, 1) := by decide +kernel
theorem dX2_makeStand_28 : decode cX2_makeStand 28 = .ok (.iaload, 1) := by decide +kernel
theorem dX2_makeStand_29 : decode cX2_makeStand 29 = .ok (.iconst 1, 1) := by decide +kernel
theorem dX2_makeStand_30 : decode cX2_makeStand 30 = .ok (.iadd, 1) := by decide +kernel
theorem dX2_makeStand_31 : decode cX2_makeStand 31 = .ok (.iastore, 1) := by decide +kernel
theorem dX2_makeStand_32 : decode cX2_makeStand 32 = .ok (.aload_n 0, 1) := by decide +kernel
theorem dX2_makeStand_33 : decode cX2_makeStand 33 = .ok (.getfield 18, 3) := by decide +kernel
theorem dX2_makeStand_36 : decode cX2_makeStand 36 = .ok (.iload_n 1, 1) := by decide +kernel
theorem dX2_makeStand_37 : decode cX2_makeStand 37 = .ok (.dup2, 1) := by decide +kernel
theorem dX2_makeStand_38 : decode cX2_makeStand 38 = .ok (.iaload, 1) := by decide +kernel
theorem dX2_makeStand_39 : decode cX2_makeStand 39 = .ok (.iload_n 2, 1) := by decide +kernel
theorem dX2_makeStand_40 : decode cX2_makeStand 40 = .ok (.iadd, 1) := by decide +kernel
theorem dX2_makeStand_41 : decode cX2_makeStand 41 = .ok (.iastore, 1) := by decide +kernel
theorem dX2_makeStand_42 : decode cX2_makeStand 42 = .ok (.aload_n 0, 1) := by decide +kernel
theorem dX2_makeStand_43 : decode cX2_makeStand 43 = .ok (.getfield 24, 3) := by decide +kernel
theorem dX2_makeStand_46 : decode cX2_makeStand 46 = .ok (.iload_n 1, 1) := by decide +kernel
theorem dX2_makeStand_47 : decode cX2_makeStand 47 = .ok (.dup2, 1) := by decide +kernel
theorem dX2_makeStand_48 : decode cX2_makeStand 48 = .ok (.iaload, 1) := by decide +kernel
theorem dX2_makeStand_49 : decode cX2_makeStand 49 = .ok (.iload_n 2, 1) := by decide +kernel
theorem dX2_makeStand_50 : decode cX2_makeStand 50 = .ok (.iadd, 1) := by decide +kernel
theorem dX2_makeStand_51 : decode cX2_makeStand 51 = .ok (.iastore, 1) := by decide +kernel
theorem dX2_makeStand_52 : decode cX2_makeStand 52 = .ok (.aload_n 0, 1) := by decide +kernel
theorem dX2_makeStand_53 : decode cX2_makeStand 53 = .ok (.dup, 1) := by decide +kernel
theorem dX2_makeStand_54 : decode cX2_makeStand 54 = .ok (.getfield 72, 3) := by decide +kernel
theorem dX2_makeStand_57 : decode cX2_makeStand 57 = .ok (.iload_n 2, 1) := by decide +kernel
theorem dX2_makeStand_58 : decode cX2_makeStand 58 = .ok (.iadd, 1) := by decide +kernel
theorem dX2_makeStand_59 : decode cX2_makeStand 59 = .ok (.putfield 72, 3) := by decide +kernel
theorem dX2_makeStand_62 : decode cX2_makeStand 62 = .ok (.return_, 1) := by decide +kernel
theorem dX2_noteMeeting_0 : decode cX2_noteMeeting 0 = .ok (.aload_n 0, 1) := by decide +kernel
theorem dX2_noteMeeting_1 : decode cX2_noteMeeting 1 = .ok (.getfield 75, 3) := by decide +kernel
theorem dX2_noteMeeting_4 : decode cX2_noteMeeting 4 = .ok (.bipush 15, 2) := by decide +kernel
theorem dX2_noteMeeting_6 : decode cX2_noteMeeting 6 = .ok (.if_icmp .lt 4, 3) := by decide +kernel
theorem dX2_noteMeeting_9 : decode cX2_noteMeeting 9 = .ok (.return_, 1) := by decide +kernel
theorem dX2_noteMeeting_10 : decode cX2_noteMeeting 10 = .ok (.aload_n 0, 1) := by decide +kernel
theorem dX2_noteMeeting_11 : decode cX2_noteMeeting 11 = .ok (.getfield 33, 3) := by decide +kernel
theorem dX2_noteMeeting_14 : decode cX2_noteMeeting 14 = .ok (.aload_n 0, 1) := by decide +kernel
theorem dX2_noteMeeting_15 : decode cX2_noteMeeting 15 = .ok (.getfield 75, 3) := by decide +kernel
theorem dX2_noteMeeting_18 : decode cX2_noteMeeting 18 = .ok (.iload_n 1, 1) := by decide +kernel
theorem dX2_noteMeeting_19 : decode cX2_noteMeeting 19 = .ok (.iastore, 1) := by decide +kernel
theorem dX2_noteMeeting_20 : decode cX2_noteMeeting 20 = .ok (.aload_n 0, 1) := by decide +kernel
theorem dX2_noteMeeting_21 : decode cX2_noteMeeting 21 = .ok (.getfield 36, 3) := by decide +kernel
theorem dX2_noteMeeting_24 : decode cX2_noteMeeting 24 = .ok (.aload_n 0, 1) := by decide +kernel
theorem dX2_noteMeeting_25 : decode cX2_noteMeeting 25 = .ok (.getfield 75, 3) := by decide +kernel
theorem dX2_noteMeeting_28 : decode cX2_noteMeeting 28 = .ok (.iload_n 2, 1) := by decide +kernel
theorem dX2_noteMeeting_29 : decode cX2_noteMeeting 29 = .ok (.iastore, 1) := by decide +kernel
theorem dX2_noteMeeting_30 : decode cX2_noteMeeting 30 = .ok (.aload_n 0, 1) := by decide +kernel
theorem dX2_noteMeeting_31 : decode cX2_noteMeeting 31 = .ok (.getfield 39, 3) := by decide +kernel
theorem dX2_noteMeeting_34 : decode cX2_noteMeeting 34 = .ok (.aload_n 0, 1) := by decide +kernel
theorem dX2_noteMeeting_35 : decode cX2_noteMeeting 35 = .ok (.getfield 75, 3) := by decide +kernel
theorem dX2_noteMeeting_38 : decode cX2_noteMeeting 38 = .ok (.iload_n 3, 1) := by decide +kernel
theorem dX2_noteMeeting_39 : decode cX2_noteMeeting 39 = .ok (.iastore, 1) := by decide +kernel
theorem dX2_noteMeeting_40 : decode cX2_noteMeeting 40 = .ok (.aload_n 0, 1) := by decide +kernel
theorem dX2_noteMeeting_41 : decode cX2_noteMeeting 41 = .ok (.getfield 42, 3) := by decide +kernel
theorem dX2_noteMeeting_44 : decode cX2_noteMeeting 44 = .ok (.aload_n 0, 1) := by decide +kernel
theorem dX2_noteMeeting_45 : decode cX2_noteMeeting 45 = .ok (.getfield 75, 3) := by decide +kernel
theorem dX2_noteMeeting_48 : decode cX2_noteMeeting 48 = .ok (.iload 4, 2) := by decide +kernel
theorem dX2_noteMeeting_50 : decode cX2_noteMeeting 50 = .ok (.iastore, 1) := by decide +kernel
theorem dX2_noteMeeting_51 : decode cX2_noteMeeting 51 = .ok (.aload_n 0, 1) := by decide +kernel
theorem dX2_noteMeeting_52 : decode cX2_noteMeeting 52 = .ok (.dup, 1) := by decide +kernel
theorem dX2_noteMeeting_53 : decode cX2_noteMeeting 53 = .ok (.getfield 75, 3) := by decide +kernel
theorem dX2_noteMeeting_56 : decode cX2_noteMeeting 56 = .ok (.iconst 1, 1) := by decide +kernel
theorem dX2_noteMeeting_57 : decode cX2_noteMeeting 57 = .ok (.iadd, 1) := by decide +kernel
theorem dX2_noteMeeting_58 : decode cX2_noteMeeting 58 = .ok (.putfield 75, 3) := by decide +kernel
theorem dX2_noteMeeting_61 : decode cX2_noteMeeting 61 = .ok (.return_, 1) := by decide +kernel
theorem dX2_arrive_0 : decode cX2_arrive 0 = .ok (.iconst 0, 1) := by decide +kernel
theorem dX2_arrive_1 : decode cX2_arrive 1 = .ok (.istore_n 2, 1) := by decide +kernel
theorem dX2_arrive_2 : decode cX2_arrive 2 = .ok (.iload_n 2, 1) := by decide +kernel
theorem dX2_arrive_3 : decode cX2_arrive 3 = .ok (.aload_n 0, 1) := by decide +kernel
theorem dX2_arrive_4 : decode cX2_arrive 4 = .ok (.getfield 45, 3) := by decide +kernel
theorem dX2_arrive_7 : decode cX2_arrive 7 = .ok (.getfield 78, 3) := by decide +kernel
theorem dX2_arrive_10 : decode cX2_arrive 10 = .ok (.if_icmp .ge 45, 3) := by decide +kernel
theorem dX2_arrive_13 : decode cX2_arrive 13 = .ok (.aload_n 0, 1) := by decide +kernel
theorem dX2_arrive_14 : decode cX2_arrive 14 = .ok (.getfield 21, 3) := by decide +kernel
theorem dX2_arrive_17 : decode cX2_arrive 17 = .ok (.iload_n 2, 1) := by decide +kernel
theorem dX2_arrive_18 : decode cX2_arrive 18 = .ok (.iaload, 1) := by decide +kernel
theorem dX2_arrive_19 : decode cX2_arrive 19 = .ok (.bipush (-4), 2) := by decide +kernel
theorem dX2_arrive_21 : decode cX2_arrive 21 = .ok (.if_icmp .ne 28, 3) := by decide +kernel
theorem dX2_arrive_24 : decode cX2_arrive 24 = .ok (.aload_n 0, 1) := by decide +kernel
theorem dX2_arrive_25 : decode cX2_arrive 25 = .ok (.iload_n 2, 1) := by decide +kernel
theorem dX2_arrive_26 : decode cX2_arrive 26 = .ok (.invokevirtual 91, 3) := by decide +kernel
theorem dX2_arrive_29 : decode cX2_arrive 29 = .ok (.ifCond .eq 20, 3) := by decide +kernel
theorem dX2_arrive_32 : decode cX2_arrive 32 = .ok (.aload_n 0, 1) := by decide +kernel
theorem dX2_arrive_33 : decode cX2_arrive 33 = .ok (.getfield 21, 3) := by decide +kernel
theorem dX2_arrive_36 : decode cX2_arrive 36 = .ok (.iload_n 2, 1) := by decide +kernel
theorem dX2_arrive_37 : decode cX2_arrive 37 = .ok (.iload_n 1, 1) := by decide +kernel
theorem dX2_arrive_38 : decode cX2_arrive 38 = .ok (.iastore, 1) := by decide +kernel
theorem dX2_arrive_39 : decode cX2_arrive 39 = .ok (.aload_n 0, 1) := by decide +kernel
theorem dX2_arrive_40 : decode cX2_arrive 40 = .ok (.dup, 1) := by decide +kernel
theorem dX2_arrive_41 : decode cX2_arrive 41 = .ok (.getfield 57, 3) := by decide +kernel
theorem dX2_arrive_44 : decode cX2_arrive 44 = .ok (.iconst 1, 1) := by decide +kernel
theorem dX2_arrive_45 : decode cX2_arrive 45 = .ok (.isub, 1) := by decide +kernel
theorem dX2_arrive_46 : decode cX2_arrive 46 = .ok (.putfield 57, 3) := by decide +kernel
theorem dX2_arrive_49 : decode cX2_arrive 49 = .ok (.iinc 2 1, 3) := by decide +kernel
theorem dX2_arrive_52 : decode cX2_arrive 52 = .ok (.goto (-50), 3) := by decide +kernel
theorem dX2_arrive_55 : decode cX2_arrive 55 = .ok (.return_, 1) := by decide +kernel
theorem dX2_isAtEnd_0 : decode cX2_isAtEnd 0 = .ok (.aload_n 0, 1) := by decide +kernel
theorem dX2_isAtEnd_1 : decode cX2_isAtEnd 1 = .ok (.getfield 15, 3) := by decide +kernel
theorem dX2_isAtEnd_4 : decode cX2_isAtEnd 4 = .ok (.iload_n 1, 1) := by decide +kernel
theorem dX2_isAtEnd_5 : decode cX2_isAtEnd 5 = .ok (.iaload, 1) := by decide +kernel
theorem dX2_isAtEnd_6 : decode cX2_isAtEnd 6 = .ok (.aload_n 0, 1) := by decide +kernel
theorem dX2_isAtEnd_7 : decode cX2_isAtEnd 7 = .ok (.getfield 45, 3) := by decide +kernel
theorem dX2_isAtEnd_10 : decode cX2_isAtEnd 10 = .ok (.getfield 95, 3) := by decide +kernel
theorem dX2_isAtEnd_13 : decode cX2_isAtEnd 13 = .ok (.iload_n 1, 1) := by decide +kernel
theorem dX2_isAtEnd_14 : decode cX2_isAtEnd 14 = .ok (.iaload, 1) := by decide +kernel
theorem dX2_isAtEnd_15 : decode cX2_isAtEnd 15 = .ok (.ifCond .ne 8, 3) := by decide +kernel
theorem dX2_isAtEnd_18 : decode cX2_isAtEnd 18 = .ok (.bipush 60, 2) := by decide +kernel
theorem dX2_isAtEnd_20 : decode cX2_isAtEnd 20 = .ok (.goto 4, 3) := by decide +kernel
theorem dX2_isAtEnd_23 : decode cX2_isAtEnd 23 = .ok (.iconst 0, 1) := by decide +kernel
theorem dX2_isAtEnd_24 : decode cX2_isAtEnd 24 = .ok (.if_icmp .ne 7, 3) := by decide +kernel
theorem dX2_isAtEnd_27 : decode cX2_isAtEnd 27 = .ok (.iconst 1, 1) := by decide +kernel
theorem dX2_isAtEnd_28 : decode cX2_isAtEnd 28 = .ok (.goto 4, 3) := by decide +kernel
theorem dX2_isAtEnd_31 : decode cX2_isAtEnd 31 = .ok (.iconst 0, 1) := by decide +kernel
theorem dX2_isAtEnd_32 : decode cX2_isAtEnd 32 = .ok (.ireturn, 1) := by decide +kernel
theorem dX3_init_0 : decode cX3_init 0 = .ok (.aload_n 0, 1) := by decide +kernel
theorem dX3_init_1 : decode cX3_init 1 = .ok (.invokespecial 3, 3) := by decide +kernel
theorem dX3_init_4 : decode cX3_init 4 = .ok (.aload_n 0, 1) := by decide +kernel
theorem dX3_init_5 : decode cX3_init 5 = .ok (.bipush 6, 2) := by decide +kernel
theorem dX3_init_7 : decode cX3_init 7 = .ok (.newarray .int, 2) := by decide +kernel
theorem dX3_init_9 : decode cX3_init 9 = .ok (.putfield 9, 3) := by decide +kernel
theorem dX3_init_12 : decode cX3_init 12 = .ok (.aload_n 0, 1) := by decide +kernel
theorem dX3_init_13 : decode cX3_init 13 = .ok (.bipush 6, 2) := by decide +kernel
theorem dX3_init_15 : decode cX3_init 15 = .ok (.newarray .int, 2) := by decide +kernel
theorem dX3_init_17 : decode cX3_init 17 = .ok (.putfield 15, 3) := by decide +kernel
theorem dX3_init_20 : decode cX3_init 20 = .ok (.return_, 1) := by decide +kernel
theorem dX3_begin_0 : decode cX3_begin 0 = .ok (.iconst 0, 1) := by decide +kernel
theorem dX3_begin_1 : decode cX3_begin 1 = .ok (.istore_n 2, 1) := by decide +kernel
theorem dX3_begin_2 : decode cX3_begin 2 = .ok (.iload_n 2, 1) := by decide +kernel
theorem dX3_begin_3 : decode cX3_begin 3 = .ok (.bipush 6, 2) := by decide +kernel
theorem dX3_begin_5 : decode cX3_begin 5 = .ok (.if_icmp .ge 28, 3) := by decide +kernel
theorem dX3_begin_8 : decode cX3_begin 8 = .ok (.aload_n 0, 1) := by decide +kernel
theorem dX3_begin_9 : decode cX3_begin 9 = .ok (.getfield 9, 3) := by decide +kernel
theorem dX3_begin_12 : decode cX3_begin 12 = .ok (.iload_n 2, 1) := by decide +kernel
theorem dX3_begin_13 : decode cX3_begin 13 = .ok (.aload_n 1, 1) := by decide +kernel
theorem dX3_begin_14 : decode cX3_begin 14 = .ok (.getfield 18, 3) := by decide +kernel
theorem dX3_begin_17 : decode cX3_begin 17 = .ok (.iload_n 2, 1) := by decide +kernel
theorem dX3_begin_18 : decode cX3_begin 18 = .ok (.iaload, 1) := by decide +kernel
theorem dX3_begin_19 : decode cX3_begin 19 = .ok (.iastore, 1) := by decide +kernel
theorem dX3_begin_20 : decode cX3_begin 20 = .ok (.aload_n 0, 1) := by decide +kernel
theorem dX3_begin_21 : decode cX3_begin 21 = .ok (.getfield 15, 3) := by decide +kernel
theorem dX3_begin_24 : decode cX3_begin 24 = .ok (.iload_n 2, 1) := by decide +kernel
theorem dX3_begin_25 : decode cX3_begin 25 = .ok (.iconst 0, 1) := by decide +kernel
theorem dX3_begin_26 : decode cX3_begin 26 = .ok (.iastore, 1) := by decide +kernel
theorem dX3_begin_27 : decode cX3_begin 27 = .ok (.iinc 2 1, 3) := by decide +kernel
theorem dX3_begin_30 : decode cX3_begin 30 = .ok (.goto (-28), 3) := by decide +kernel
theorem dX3_begin_33 : decode cX3_begin 33 = .ok (.return_, 1) := by decide +kernel
theorem dX3_copy_0 : decode cX3_copy 0 = .ok (.aload_n 1, 1) := by decide +kernel
theorem dX3_copy_1 : decode cX3_copy 1 = .ok (.getfield 9, 3) := by decide +kernel
theorem dX3_copy_4 : decode cX3_copy 4 = .ok (.iconst 0, 1) := by decide +kernel
theorem dX3_copy_5 : decode cX3_copy 5 = .ok (.aload_n 0, 1) := by decide +kernel
theorem dX3_copy_6 : decode cX3_copy 6 = .ok (.getfield 9, 3) := by decide +kernel
theorem dX3_copy_9 : decode cX3_copy 9 = .ok (.iconst 0, 1) := by decide +kernel
theorem dX3_copy_10 : decode cX3_copy 10 = .ok (.bipush 6, 2) := by decide +kernel
theorem dX3_copy_12 : decode cX3_copy 12 = .ok (.invokestatic 23, 3) := by decide +kernel
theorem dX3_copy_15 : decode cX3_copy 15 = .ok (.aload_n 1, 1) := by decide +kernel
theorem dX3_copy_16 : decode cX3_copy 16 = .ok (.getfield 15, 3) := by decide +kernel
theorem dX3_copy_19 : decode cX3_copy 19 = .ok (.iconst 0, 1) := by decide +kernel
theorem dX3_copy_20 : decode cX3_copy 20 = .ok (.aload_n 0, 1) := by decide +kernel
theorem dX3_copy_21 : decode cX3_copy 21 = .ok (.getfield 15, 3) := by decide +kernel
theorem dX3_copy_24 : decode cX3_copy 24 = .ok (.iconst 0, 1) := by decide +kernel
theorem dX3_copy_25 : decode cX3_copy 25 = .ok (.bipush 6, 2) := by decide +kernel
theorem dX3_copy_27 : decode cX3_copy 27 = .ok (.invokestatic 23, 3) := by decide +kernel
theorem dX3_copy_30 : decode cX3_copy 30 = .ok (.return_, 1) := by decide +kernel
theorem dX3_draw_0 : decode cX3_draw 0 = .ok (.iconst 0, 1) := by decide +kernel
theorem dX3_draw_1 : decode cX3_draw 1 = .ok (.istore_n 2, 1) := by decide +kernel
theorem dX3_draw_2 : decode cX3_draw 2 = .ok (.iload_n 2, 1) := by decide +kernel
theorem dX3_draw_3 : decode cX3_draw 3 = .ok (.bipush 6, 2) := by decide +kernel
theorem dX3_draw_5 : decode cX3_draw 5 = .ok (.if_icmp .ge 60, 3) := by decide +kernel
theorem dX3_draw_8 : decode cX3_draw 8 = .ok (.ldc2_w 29, 3) := by decide +kernel
theorem dX3_draw_11 : decode cX3_draw 11 = .ok (.iload_n 1, 1) := by decide +kernel
theorem dX3_draw_12 : decode cX3_draw 12 = .ok (.i2l, 1) := by decide +kernel
theorem dX3_draw_13 : decode cX3_draw 13 = .ok (.lmul, 1) := by decide +kernel
theorem dX3_draw_14 : decode cX3_draw 14 = .ok (.ldc2_w 31, 3) := by decide +kernel
theorem dX3_draw_17 : decode cX3_draw 17 = .ok (.iload_n 2, 1) := by decide +kernel
theorem dX3_draw_18 : decode cX3_draw 18 = .ok (.i2l, 1) := by decide +kernel
theorem dX3_draw_19 : decode cX3_draw 19 = .ok (.lmul, 1) := by decide +kernel
theorem dX3_draw_20 : decode cX3_draw 20 = .ok (.ladd, 1) := by decide +kernel
theorem dX3_draw_21 : decode cX3_draw 21 = .ok (.lconst 1, 1) := by decide +kernel
theorem dX3_draw_22 : decode cX3_draw 22 = .ok (.ladd, 1) := by decide +kernel
theorem dX3_draw_23 : decode cX3_draw 23 = .ok (.lstore_n 3, 1) := by decide +kernel
theorem dX3_draw_24 : decode cX3_draw 24 = .ok (.lload_n 3, 1) := by decide +kernel
theorem dX3_draw_25 : decode cX3_draw 25 = .ok (.lload_n 3, 1) := by decide +kernel
theorem dX3_draw_26 : decode cX3_draw 26 = .ok (.lmul, 1) := by decide +kernel
theorem dX3_draw_27 : decode cX3_draw 27 = .ok (.ldc2_w 33, 3) := by decide +kernel
theorem dX3_draw_30 : decode cX3_draw 30 = .ok (.lrem, 1) := by decide +kernel
theorem dX3_draw_31 : decode cX3_draw 31 = .ok (.l2i, 1) := by decide +kernel
theorem dX3_draw_32 : decode cX3_draw 32 = .ok (.istore 5, 2) := by decide +kernel
theorem dX3_draw_34 : decode cX3_draw 34 = .ok (.aload_n 0, 1) := by decide +kernel
theorem dX3_draw_35 : decode cX3_draw 35 = .ok (.getfield 15, 3) := by decide +kernel
theorem dX3_draw_38 : decode cX3_draw 38 = .ok (.iload_n 2, 1) := by decide +kernel
theorem dX3_draw_39 : decode cX3_draw 39 = .ok (.iload 5, 2) := by decide +kernel
theorem dX3_draw_41 : decode cX3_draw 41 = .ok (.bipush 31, 2) := by decide +kernel
theorem dX3_draw_43 : decode cX3_draw 43 = .ok (.irem, 1) := by decide +kernel
theorem dX3_draw_44 : decode cX3_draw 44 = .ok (.iastore, 1) := by decide +kernel
theorem dX3_draw_45 : decode cX3_draw 45 = .ok (.aload_n 0, 1) := by decide +kernel
theorem dX3_draw_46 : decode cX3_draw 46 = .ok (.getfield 9, 3) := by decide +kernel
theorem dX3_draw_49 : decode cX3_draw 49 = .ok (.iload_n 2, 1) := by decide +kernel
theorem dX3_draw_50 : decode cX3_draw 50 = .ok (.iload 5, 2) := by decide +kernel
theorem dX3_draw_52 : decode cX3_draw 52 = .ok (.bipush 64, 2) := by decide +kernel
theorem dX3_draw_54 : decode cX3_draw 54 = .ok (.idiv, 1) := by decide +kernel
theorem dX3_draw_55 : decode cX3_draw 55 = .ok (.bipush 10, 2) := by decide +kernel
theorem dX3_draw_57 : decode cX3_draw 57 = .ok (.irem, 1) := by decide +kernel
theorem dX3_draw_58 : decode cX3_draw 58 = .ok (.iastore, 1) := by decide +kernel
theorem dX3_draw_59 : decode cX3_draw 59 = .ok (.iinc 2 1, 3) := by decide +kernel
theorem dX3_draw_62 : decode cX3_draw 62 = .ok (.goto (-60), 3) := by decide +kernel
theorem dX3_draw_65 : decode cX3_draw 65 = .ok (.return_, 1) := by decide +kernel
theorem dX4_init_0 : decode cX4_init 0 = .ok (.aload_n 0, 1) := by decide +kernel
theorem dX4_init_1 : decode cX4_init 1 = .ok (.invokespecial 3, 3) := by decide +kernel
theorem dX4_init_4 : decode cX4_init 4 = .ok (.aload_n 0, 1) := by decide +kernel
theorem dX4_init_5 : decode cX4_init 5 = .ok (.iconst 5, 1) := by decide +kernel
theorem dX4_init_6 : decode cX4_init 6 = .ok (.newarray .int, 2) := by decide +kernel
theorem dX4_init_8 : decode cX4_init 8 = .ok (.putfield 9, 3) := by decide +kernel
theorem dX4_init_11 : decode cX4_init 11 = .ok (.aload_n 0, 1) := by decide +kernel
theorem dX4_init_12 : decode cX4_init 12 = .ok (.aload_n 1, 1) := by decide +kernel
theorem dX4_init_13 : decode cX4_init 13 = .ok (.putfield 15, 3) := by decide +kernel
theorem dX4_init_16 : decode cX4_init 16 = .ok (.aload_n 0, 1) := by decide +kernel
theorem dX4_init_17 : decode cX4_init 17 = .ok (.aload_n 2, 1) := by decide +kernel
theorem dX4_init_18 : decode cX4_init 18 = .ok (.putfield 19, 3) := by decide +kernel
theorem dX4_init_21 : decode cX4_init 21 = .ok (.return_, 1) := by decide +kernel
theorem dX4_firstFault_0 : decode cX4_firstFault 0 = .ok (.aload_n 0, 1) := by decide +kernel
theorem dX4_firstFault_1 : decode cX4_firstFault 1 = .ok (.getfield 19, 3) := by decide +kernel
theorem dX4_firstFault_4 : decode cX4_firstFault 4 = .ok (.invokevirtual 23, 3) := by decide +kernel
theorem dX4_firstFault_7 : decode cX4_firstFault 7 = .ok (.iconst 0, 1) := by decide +kernel
theorem dX4_firstFault_8 : decode cX4_firstFault 8 = .ok (.istore_n 1, 1) := by decide +kernel
theorem dX4_firstFault_9 : decode cX4_firstFault 9 = .ok (.iconst 0, 1) := by decide +kernel
theorem dX4_firstFault_10 : decode cX4_firstFault 10 = .ok (.istore_n 2, 1) := by decide +kernel
theorem dX4_firstFault_11 : decode cX4_firstFault 11 = .ok (.iload_n 2, 1) := by decide +kernel
theorem dX4_firstFault_12 : decode cX4_firstFault 12 = .ok (.sipush 200, 3) := by decide +kernel
theorem dX4_firstFault_15 : decode cX4_firstFault 15 = .ok (.if_icmp .ge 36, 3) := by decide +kernel
theorem dX4_firstFault_18 : decode cX4_firstFault 18 = .ok (.iload_n 1, 1) := by decide +kernel
theorem dX4_firstFault_19 : decode cX4_firstFault 19 = .ok (.aload_n 0, 1) := by decide +kernel
theorem dX4_firstFault_20 : decode cX4_firstFault 20 = .ok (.getfield 15, 3) := by decide +kernel
theorem dX4_firstFault_23 : decode cX4_firstFault 23 = .ok (.getfield 28, 3) := by decide +kernel
theorem dX4_firstFault_26 : decode cX4_firstFault 26 = .ok (.if_icmp .ge 25, 3) := by decide +kernel
theorem dX4_firstFault_29 : decode cX4_firstFault 29 = .ok (.aload_n 0, 1) := by decide +kernel
theorem dX4_firstFault_30 : decode cX4_firstFault 30 = .ok (.iload_n 1, 1) := by decide +kernel
theorem dX4_firstFault_31 : decode cX4_firstFault 31 = .ok (.invokevirtual 34, 3) := by decide +kernel
theorem dX4_firstFault_34 : decode cX4_firstFault 34 = .ok (.istore_n 3, 1) := by decide +kernel
theorem dX4_firstFault_35 : decode cX4_firstFault 35 = .ok (.iload_n 3, 1) := by decide +kernel
theorem dX4_firstFault_36 : decode cX4_firstFault 36 = .ok (.bipush (-4), 2) := by decide +kernel
theorem dX4_firstFault_38 : decode cX4_firstFault 38 = .ok (.if_icmp .ne 5, 3) := by decide +kernel
theorem dX4_firstFault_41 : decode cX4_firstFault 41 = .ok (.iload_n 1, 1) := by decide +kernel
theorem dX4_firstFault_42 : decode cX4_firstFault 42 = .ok (.ireturn, 1) := by decide +kernel
theorem dX4_firstFault_43 : decode cX4_firstFault 43 = .ok (.iload_n 3, 1) := by decide +kernel
theorem dX4_firstFault_44 : decode cX4_firstFault 44 = .ok (.istore_n 1, 1) := by decide +kernel
theorem dX4_firstFault_45 : decode cX4_firstFault 45 = .ok (.iinc 2 1, 3) := by decide +kernel
theorem dX4_firstFault_48 : decode cX4_firstFault 48 = .ok (.goto (-37), 3) := by decide +kernel
theorem dX4_firstFault_51 : decode cX4_firstFault 51 = .ok (.bipush (-4), 2) := by decide +kernel
theorem dX4_firstFault_53 : decode cX4_firstFault 53 = .ok (.ireturn, 1) := by decide +kernel
theorem dX4_readItem_0 : decode cX4_readItem 0 = .ok (.aload_n 0, 1) := by decide +kernel
theorem dX4_readItem_1 : decode cX4_readItem 1 = .ok (.getfield 15, 3) := by decide +kernel
theorem dX4_readItem_4 : decode cX4_readItem 4 = .ok (.iload_n 1, 1) := by decide +kernel
theorem dX4_readItem_5 : decode cX4_readItem 5 = .ok (.invokevirtual 38, 3) := by decide +kernel
theorem dX4_readItem_8 : decode cX4_readItem 8 = .ok (.istore_n 2, 1) := by decide +kernel
theorem dX4_readItem_9 : decode cX4_readItem 9 = .ok (.iload_n 2, 1) := by decide +kernel
theorem dX4_readItem_10 : decode cX4_readItem 10 = .ok (.invokestatic 41, 3) := by decide +kernel
theorem dX4_readItem_13 : decode cX4_readItem 13 = .ok (.istore_n 3, 1) := by decide +kernel
theorem dX4_readItem_14 : decode cX4_readItem 14 = .ok (.iload_n 1, 1) := by decide +kernel
theorem dX4_readItem_15 : decode cX4_readItem 15 = .ok (.iconst 1, 1) := by decide +kernel
theorem dX4_readItem_16 : decode cX4_readItem 16 = .ok (.iadd, 1) := by decide +kernel
theorem dX4_readItem_17 : decode cX4_readItem 17 = .ok (.istore 4, 2) := by decide +kernel
theorem dX4_readItem_19 : decode cX4_readItem 19 = .ok (.iconst 0, 1) := by decide +kernel
theorem dX4_readItem_20 : decode cX4_readItem 20 = .ok (.istore 5, 2) := by decide +kernel
theorem dX4_readItem_22 : decode cX4_readItem 22 = .ok (.iload 5, 2) := by decide +kernel
theorem dX4_readItem_24 : decode cX4_readItem 24 = .ok (.iload_n 3, 1) := by decide +kernel
theorem dX4_readItem_25 : decode cX4_readItem 25 = .ok (.if_icmp .ge 44, 3) := by decide +kernel
theorem dX4_readItem_28 : decode cX4_readItem 28 = .ok (.aload_n 0, 1) := by decide +kernel
theorem dX4_readItem_29 : decode cX4_readItem 29 = .ok (.iload 4, 2) := by decide +kernel
theorem dX4_readItem_31 : decode cX4_readItem 31 = .ok (.iload 5, 2) := by decide +kernel
theorem dX4_readItem_33 : decode cX4_readItem 33 = .ok (.iload 5, 2) := by decide +kernel
theorem dX4_readItem_35 : decode cX4_readItem 35 = .ok (.iconst 1, 1) := by decide +kernel
theorem dX4_readItem_36 : decode cX4_readItem 36 = .ok (.iadd, 1) := by decide +kernel
theorem dX4_readItem_37 : decode cX4_readItem 37 = .ok (.iload_n 3, 1) := by decide +kernel
theorem dX4_readItem_38 : decode cX4_readItem 38 = .ok (.if_icmp .ge 8, 3) := by decide +kernel
theorem dX4_readItem_41 : decode cX4_readItem 41 = .ok (.bipush 44, 2) := by decide +kernel
theorem dX4_readItem_43 : decode cX4_readItem 43 = .ok (.goto 5, 3) := by decide +kernel
theorem dX4_readItem_46 : decode cX4_readItem 46 = .ok (.bipush 59, 2) := by decide +kernel
theorem dX4_readItem_48 : decode cX4_readItem 48 = .ok (.invokevirtual 44, 3) := by decide +kernel
theorem dX4_readItem_51 : decode cX4_readItem 51 = .ok (.istore 4, 2) := by decide +kernel
theorem dX4_readItem_53 : decode cX4_readItem 53 = .ok (.iload 4, 2) := by decide +kernel
theorem dX4_readItem_55 : decode cX4_readItem 55 = .ok (.bipush (-4), 2) := by decide +kernel
theorem dX4_readItem_57 : decode cX4_readItem 57 = .ok (.if_icmp .ne 6, 3) := by decide +kernel
theorem dX4_readItem_60 : decode cX4_readItem 60 = .ok (.bipush (-4), 2) := by decide +kernel
theorem dX4_readItem_62 : decode cX4_readItem 62 = .ok (.ireturn, 1) := by decide +kernel
theorem dX4_readItem_63 : decode cX4_readItem 63 = .ok (.iinc 5 1, 3) := by decide +kernel
theorem dX4_readItem_66 : decode cX4_readItem 66 = .ok (.goto (-44), 3) := by decide +kernel
theorem dX4_readItem_69 : decode cX4_readItem 69 = .ok (.aload_n 0, 1) := by decide +kernel
theorem dX4_readItem_70 : decode cX4_readItem 70 = .ok (.iload_n 2, 1) := by decide +kernel
theorem dX4_readItem_71 : decode cX4_readItem 71 = .ok (.invokevirtual 48, 3) := by decide +kernel
theorem dX4_readItem_74 : decode cX4_readItem 74 = .ok (.ifCond .eq 8, 3) := by decide +kernel
theorem dX4_readItem_77 : decode cX4_readItem 77 = .ok (.iload 4, 2) := by decide +kernel
theorem dX4_readItem_79 : decode cX4_readItem 79 = .ok (.goto 5, 3) := by decide +kernel
theorem dX4_readItem_82 : decode cX4_readItem 82 = .ok (.bipush (-4), 2) := by decide +kernel
theorem dX4_readItem_84 : decode cX4_readItem 84 = .ok (.ireturn, 1) := by decide +kernel
theorem dX4_numbersOf_0 : decode cX4_numbersOf 0 = .ok (.iload_n 0, 1) := by decide +kernel
theorem dX4_numbersOf_1 : decode cX4_numbersOf 1 = .ok (.lookupswitch 61 #[(98, 51), (104, 57), (108, 59), (110, 53), (121, 55)], 51) := by decide +kernel
theorem dX4_numbersOf_52 : decode cX4_numbersOf 52 = .ok (.iconst 5, 1) := by decide +kernel
theorem dX4_numbersOf_53 : decode cX4_numbersOf 53 = .ok (.ireturn, 1) := by decide +kernel
theorem dX4_numbersOf_54 : decode cX4_numbersOf 54 = .ok (.iconst 2, 1) := by decide +kernel
theorem dX4_numbersOf_55 : decode cX4_numbersOf 55 = .ok (.ireturn, 1) := by decide +kernel
theorem dX4_numbersOf_56 : decode cX4_numbersOf 56 = .ok (.iconst 1, 1) := by decide +kernel
theorem dX4_numbersOf_57 : decode cX4_numbersOf 57 = .ok (.ireturn, 1) := by decide +kernel
theorem dX4_numbersOf_58 : decode cX4_numbersOf 58 = .ok (.iconst 1, 1) := by decide +kernel
theorem dX4_numbersOf_59 : decode cX4_numbersOf 59 = .ok (.ireturn, 1) := by decide +kernel
theorem dX4_numbersOf_60 : decode cX4_numbersOf 60 = .ok (.iconst 2, 1) := by decide +kernel
theorem dX4_numbersOf_61 : decode cX4_numbersOf 61 = .ok (.ireturn, 1) := by decide +kernel
theorem dX4_numbersOf_62 : decode cX4_numbersOf 62 = .ok (.iconst 0, 1) := by decide +kernel
theorem dX4_numbersOf_63 : decode cX4_numbersOf 63 = .ok (.ireturn, 1) := by decide +kernel
theorem dX4_readNumber_0 : decode cX4_readNumber 0 = .ok (.aload_n 0, 1) := by decide +kernel
theorem dX4_readNumber_1 : decode cX4_readNumber 1 = .ok (.iload_n 1, 1) := by decide +kernel
theorem dX4_readNumber_2 : decode cX4_readNumber 2 = .ok (.invokevirtual 52, 3) := by decide +kernel
theorem dX4_readNumber_5 : decode cX4_readNumber 5 = .ok (.istore 4, 2) := by decide +kernel
theorem dX4_readNumber_7 : decode cX4_readNumber 7 = .ok (.iload 4, 2) := by decide +kernel
theorem dX4_readNumber_9 : decode cX4_readNumber 9 = .ok (.bipush (-4), 2) := by decide +kernel
theorem dX4_readNumber_11 : decode cX4_readNumber 11 = .ok (.if_icmp .eq 12, 3) := by decide +kernel
theorem dX4_readNumber_14 : decode cX4_readNumber 14 = .ok (.iload_n 2, 1) := by decide +kernel
theorem dX4_readNumber_15 : decode cX4_readNumber 15 = .ok (.ifCond .lt 8, 3) := by decide +kernel
theorem dX4_readNumber_18 : decode cX4_readNumber 18 = .ok (.iload_n 2, 1) := by decide +kernel
theorem dX4_readNumber_19 : decode cX4_readNumber 19 = .ok (.iconst 5, 1) := by decide +kernel
theorem dX4_readNumber_20 : decode cX4_readNumber 20 = .ok (.if_icmp .lt 6, 3) := by decide +kernel
theorem dX4_readNumber_23 : decode cX4_readNumber 23 = .ok (.bipush (-4), 2) := by decide +kernel
theorem dX4_readNumber_25 : decode cX4_readNumber 25 = .ok (.ireturn, 1) := by decide +kernel
theorem dX4_readNumber_26 : decode cX4_readNumber 26 = .ok (.iload 4, 2) := by decide +kernel
theorem dX4_readNumber_28 : decode cX4_readNumber 28 = .ok (.istore 5, 2) := by decide +kernel
theorem dX4_readNumber_30 : decode cX4_readNumber 30 = .ok (.iload_n 1, 1) := by decide +kernel
theorem dX4_readNumber_31 : decode cX4_readNumber 31 = .ok (.iconst 1, 1) := by decide +kernel
theorem dX4_readNumber_32 : decode cX4_readNumber 32 = .ok (.iadd, 1) := by decide +kernel
theorem dX4_readNumber_33 : decode cX4_readNumber 33 = .ok (.istore 6, 2) := by decide +kernel
theorem dX4_readNumber_35 : decode cX4_readNumber 35 = .ok (.aload_n 0, 1) := by decide +kernel
theorem dX4_readNumber_36 : decode cX4_readNumber 36 = .ok (.iload 6, 2) := by decide +kernel
theorem dX4_readNumber_38 : decode cX4_readNumber 38 = .ok (.invokevirtual 52, 3) := by decide +kernel
theorem dX4_readNumber_41 : decode cX4_readNumber 41 = .ok (.istore 7, 2) := by decide +kernel
theorem dX4_readNumber_43 : decode cX4_readNumber 43 = .ok (.iload 7, 2) := by decide +kernel
theorem dX4_readNumber_45 : decode cX4_readNumber 45 = .ok (.bipush (-4), 2) := by decide +kernel
theorem dX4_readNumber_47 : decode cX4_readNumber 47 = .ok (.if_icmp .eq 16, 3) := by decide +kernel
theorem dX4_readNumber_50 : decode cX4_readNumber 50 = .ok (.bipush 10, 2) := by decide +kernel
theorem dX4_readNumber_52 : decode cX4_readNumber 52 = .ok (.iload 5, 2) := by decide +kernel
theorem dX4_readNumber_54 : decode cX4_readNumber 54 = .ok (.imul, 1) := by decide +kernel
theorem dX4_readNumber_55 : decode cX4_readNumber 55 = .ok (.iload 7, 2) := by decide +kernel
theorem dX4_readNumber_57 : decode cX4_readNumber 57 = .ok (.iadd, 1) := by decide +kernel
theorem dX4_readNumber_58 : decode cX4_readNumber 58 = .ok (.istore 5, 2) := by decide +kernel
theorem dX4_readNumber_60 : decode cX4_readNumber 60 = .ok (.iinc 6 1, 3) := by decide +kernel
theorem dX4_readNumber_63 : decode cX4_readNumber 63 = .ok (.aload_n 0, 1) := by decide +kernel
theorem dX4_readNumber_64 : decode cX4_readNumber 64 = .ok (.getfield 9, 3) := by decide +kernel
theorem dX4_readNumber_67 : decode cX4_readNumber 67 = .ok (.iload_n 2, 1) := by decide +kernel
theorem dX4_readNumber_68 : decode cX4_readNumber 68 = .ok (.iload 5, 2) := by decide +kernel
theorem dX4_readNumber_70 : decode cX4_readNumber 70 = .ok (.iastore, 1) := by decide +kernel
theorem dX4_readNumber_71 : decode cX4_readNumber 71 = .ok (.aload_n 0, 1) := by decide +kernel
theorem dX4_readNumber_72 : decode cX4_readNumber 72 = .ok (.getfield 15, 3) := by decide +kernel
theorem dX4_readNumber_75 : decode cX4_readNumber 75 = .ok (.iload 6, 2) := by decide +kernel
theorem dX4_readNumber_77 : decode cX4_readNumber 77 = .ok (.invokevirtual 38, 3) := by decide +kernel
theorem dX4_readNumber_80 : decode cX4_readNumber 80 = .ok (.iload_n 3, 1) := by decide +kernel
theorem dX4_readNumber_81 : decode cX4_readNumber 81 = .ok (.if_icmp .ne 10, 3) := by decide +kernel
theorem dX4_readNumber_84 : decode cX4_readNumber 84 = .ok (.iload 6, 2) := by decide +kernel
theorem dX4_readNumber_86 : decode cX4_readNumber 86 = .ok (.iconst 1, 1) := by decide +kernel
theorem dX4_readNumber_87 : decode cX4_readNumber 87 = .ok (.iadd, 1) := by decide +kernel
theorem dX4_readNumber_88 : decode cX4_readNumber 88 = .ok (.goto 5, 3) := by decide +kernel
theorem dX4_readNumber_91 : decode cX4_readNumber 91 = .ok (.bipush (-4), 2) := by decide +kernel
theorem dX4_readNumber_93 : decode cX4_readNumber 93 = .ok (.ireturn, 1) := by decide +kernel
theorem dX4_figureAt_0 : decode cX4_figureAt 0 = .ok (.aload_n 0, 1) := by decide +kernel
theorem dX4_figureAt_1 : decode cX4_figureAt 1 = .ok (.getfield 15, 3) := by decide +kernel
theorem dX4_figureAt_4 : decode cX4_figureAt 4 = .ok (.iload_n 1, 1) := by decide +kernel
theorem dX4_figureAt_5 : decode cX4_figureAt 5 = .ok (.invokevirtual 38, 3) := by decide +kernel
theorem dX4_figureAt_8 : decode cX4_figureAt 8 = .ok (.istore_n 2, 1) := by decide +kernel
theorem dX4_figureAt_9 : decode cX4_figureAt 9 = .ok (.iload_n 2, 1) := by decide +kernel
theorem dX4_figureAt_10 : decode cX4_figureAt 10 = .ok (.bipush 48, 2) := by decide +kernel
theorem dX4_figureAt_12 : decode cX4_figureAt 12 = .ok (.bipush 57, 2) := by decide +kernel
theorem dX4_figureAt_14 : decode cX4_figureAt 14 = .ok (.invokestatic 55, 3) := by decide +kernel
theorem dX4_figureAt_17 : decode cX4_figureAt 17 = .ok (.ifCond .eq 10, 3) := by decide +kernel
theorem dX4_figureAt_20 : decode cX4_figureAt 20 = .ok (.iload_n 2, 1) := by decide +kernel
theorem dX4_figureAt_21 : decode cX4_figureAt 21 = .ok (.bipush 48, 2) := by decide +kernel
theorem dX4_figureAt_23 : decode cX4_figureAt 23 = .ok (.isub, 1) := by decide +kernel
theorem dX4_figureAt_24 : decode cX4_figureAt 24 = .ok (.goto 5, 3) := by decide +kernel
theorem dX4_figureAt_27 : decode cX4_figureAt 27 = .ok (.bipush (-4), 2) := by decide +kernel
theorem dX4_figureAt_29 : decode cX4_figureAt 29 = .ok (.ireturn, 1) := by decide +kernel
theorem dX4_takeItem_0 : decode cX4_takeItem 0 = .ok (.iload_n 1, 1) := by decide +kernel
theorem dX4_takeItem_1 : decode cX4_takeItem 1 = .ok (.lookupswitch 76 #[(98, 51), (104, 66), (108, 71), (110, 56), (121, 61)], 51) := by decide +kernel
theorem dX4_takeItem_52 : decode cX4_takeItem 52 = .ok (.aload_n 0, 1) := by decide +kernel
theorem dX4_takeItem_53 : decode cX4_takeItem 53 = .ok (.invokevirtual 59, 3) := by decide +kernel
theorem dX4_takeItem_56 : decode cX4_takeItem 56 = .ok (.ireturn, 1) := by decide +kernel
theorem dX4_takeItem_57 : decode cX4_takeItem 57 = .ok (.aload_n 0, 1) := by decide +kernel
theorem dX4_takeItem_58 : decode cX4_takeItem 58 = .ok (.invokevirtual 63, 3) := by decide +kernel
theorem dX4_takeItem_61 : decode cX4_takeItem 61 = .ok (.ireturn, 1) := by decide +kernel
theorem dX4_takeItem_62 : decode cX4_takeItem 62 = .ok (.aload_n 0, 1) := by decide +kernel
theorem dX4_takeItem_63 : decode cX4_takeItem 63 = .ok (.invokevirtual 66, 3) := by decide +kernel
theorem dX4_takeItem_66 : decode cX4_takeItem 66 = .ok (.ireturn, 1) := by decide +kernel
theorem dX4_takeItem_67 : decode cX4_takeItem 67 = .ok (.aload_n 0, 1) := by decide +kernel
theorem dX4_takeItem_68 : decode cX4_takeItem 68 = .ok (.invokevirtual 69, 3) := by decide +kernel
theorem dX4_takeItem_71 : decode cX4_takeItem 71 = .ok (.ireturn, 1) := by decide +kernel
theorem dX4_takeItem_72 : decode cX4_takeItem 72 = .ok (.aload_n 0, 1) := by decide +kernel
theorem dX4_takeItem_73 : decode cX4_takeItem 73 = .ok (.invokevirtual 72, 3) := by decide +kernel
theorem dX4_takeItem_76 : decode cX4_takeItem 76 = .ok (.ireturn, 1) := by decide +kernel
theorem dX4_takeItem_77 : decode cX4_takeItem 77 = .ok (.iconst 0, 1) := by decide +kernel
theorem dX4_takeItem_78 : decode cX4_takeItem 78 = .ok (.ireturn, 1) := by decide +kernel
theorem dX4_takeBoat_0 : decode cX4_takeBoat 0 = .ok (.aload_n 0, 1) := by decide +kernel
theorem dX4_takeBoat_1 : decode cX4_takeBoat 1 = .ok (.getfield 19, 3) := by decide +kernel
theorem dX4_takeBoat_4 : decode cX4_takeBoat 4 = .ok (.getfield 75, 3) := by decide +kernel
theorem dX4_takeBoat_7 : decode cX4_takeBoat 7 = .ok (.istore_n 1, 1) := by decide +kernel
theorem dX4_takeBoat_8 : decode cX4_takeBoat 8 = .ok (.iload_n 1, 1) := by decide +kernel
theorem dX4_takeBoat_9 : decode cX4_takeBoat 9 = .ok (.bipush 6, 2) := by decide +kernel
theorem dX4_takeBoat_11 : decode cX4_takeBoat 11 = .ok (.if_icmp .ge 75, 3) := by decide +kernel
theorem dX4_takeBoat_14 : decode cX4_takeBoat 14 = .ok (.aload_n 0, 1) := by decide +kernel
theorem dX4_takeBoat_15 : decode cX4_takeBoat 15 = .ok (.getfield 9, 3) := by decide +kernel
theorem dX4_takeBoat_18 : decode cX4_takeBoat 18 = .ok (.iconst 0, 1) := by decide +kernel
theorem dX4_takeBoat_19 : decode cX4_takeBoat 19 = .ok (.iaload, 1) := by decide +kernel
theorem dX4_takeBoat_20 : decode cX4_takeBoat 20 = .ok (.iconst 0, 1) := by decide +kernel
theorem dX4_takeBoat_21 : decode cX4_takeBoat 21 = .ok (.bipush 60, 2) := by decide +kernel
theorem dX4_takeBoat_23 : decode cX4_takeBoat 23 = .ok (.invokestatic 55, 3) := by decide +kernel
theorem dX4_takeBoat_26 : decode cX4_takeBoat 26 = .ok (.ifCond .eq 60, 3) := by decide +kernel
theorem dX4_takeBoat_29 : decode cX4_takeBoat 29 = .ok (.aload_n 0, 1) := by decide +kernel
theorem dX4_takeBoat_30 : decode cX4_takeBoat 30 = .ok (.getfield 9, 3) := by decide +kernel
theorem dX4_takeBoat_33 : decode cX4_takeBoat 33 = .ok (.iconst 1, 1) := by decide +kernel
theorem dX4_takeBoat_34 : decode cX4_takeBoat 34 = .ok (.iaload, 1) := by decide +kernel
theorem dX4_takeBoat_35 : decode cX4_takeBoat 35 = .ok (.iconst 0, 1) := by decide +kernel
theorem dX4_takeBoat_36 : decode cX4_takeBoat 36 = .ok (.iconst 1, 1) := by decide +kernel
theorem dX4_takeBoat_37 : decode cX4_takeBoat 37 = .ok (.invokestatic 55, 3) := by decide +kernel
theorem dX4_takeBoat_40 : decode cX4_takeBoat 40 = .ok (.ifCond .eq 46, 3) := by decide +kernel
theorem dX4_takeBoat_43 : decode cX4_takeBoat 43 = .ok (.aload_n 0, 1) := by decide +kernel
theorem dX4_takeBoat_44 : decode cX4_takeBoat 44 = .ok (.getfield 9, 3) := by decide +kernel
theorem dX4_takeBoat_47 : decode cX4_takeBoat 47 = .ok (.iconst 2, 1) := by decide +kernel
theorem dX4_takeBoat_48 : decode cX4_takeBoat 48 = .ok (.iaload, 1) := by decide +kernel
theorem dX4_takeBoat_49 : decode cX4_takeBoat 49 = .ok (.iconst 1, 1) := by decide +kernel
theorem dX4_takeBoat_50 : decode cX4_takeBoat 50 = .ok (.iconst 3, 1) := by decide +kernel
theorem dX4_takeBoat_51 : decode cX4_takeBoat 51 = .ok (.invokestatic 55, 3) := by decide +kernel
theorem dX4_takeBoat_54 : decode cX4_takeBoat 54 = .ok (.ifCond .eq 32, 3) := by decide +kernel
theorem dX4_takeBoat_57 : decode cX4_takeBoat 57 = .ok (.aload_n 0, 1) := by decide +kernel
theorem dX4_takeBoat_58 : decode cX4_takeBoat 58 = .ok (.getfield 9, 3) := by decide +kernel
theorem dX4_takeBoat_61 : decode cX4_takeBoat 61 = .ok (.iconst 3, 1) := by decide +kernel
theorem dX4_takeBoat_62 : decode cX4_takeBoat 62 = .ok (.iaload, 1) := by decide +kernel
theorem dX4_takeBoat_63 : decode cX4_takeBoat 63 = .ok (.iconst 0, 1) := by decide +kernel
theorem dX4_takeBoat_64 : decode cX4_takeBoat 64 = .ok (.bipush 9, 2) := by decide +kernel
theorem dX4_takeBoat_66 : decode cX4_takeBoat 66 = .ok (.invokestatic 55, 3) := by decide +kernel
theorem dX4_takeBoat_69 : decode cX4_takeBoat 69 = .ok (.ifCond .eq 17, 3) := by decide +kernel
theorem dX4_takeBoat_72 : decode cX4_takeBoat 72 = .ok (.aload_n 0, 1) := by decide +kernel
theorem dX4_takeBoat_73 : decode cX4_takeBoat 73 = .ok (.getfield 9, 3) := by decide +kernel
theorem dX4_takeBoat_76 : decode cX4_takeBoat 76 = .ok (.iconst 4, 1) := by decide +kernel
theorem dX4_takeBoat_77 : decode cX4_takeBoat 77 = .ok (.iaload, 1) := by decide +kernel
theorem dX4_takeBoat_78 : decode cX4_takeBoat 78 = .ok (.iconst 0, 1) := by decide +kernel
theorem dX4_takeBoat_79 : decode cX4_takeBoat 79 = .ok (.iconst 3, 1) := by decide +kernel
theorem dX4_takeBoat_80 : decode cX4_takeBoat 80 = .ok (.invokestatic 55, 3) := by decide +kernel
theorem dX4_takeBoat_83 : decode cX4_takeBoat 83 = .ok (.ifCond .ne 5, 3) := by decide +kernel
theorem dX4_takeBoat_86 : decode cX4_takeBoat 86 = .ok (.iconst 0, 1) := by decide +kernel
theorem dX4_takeBoat_87 : decode cX4_takeBoat 87 = .ok (.ireturn, 1) := by decide +kernel
theorem dX4_takeBoat_88 : decode cX4_takeBoat 88 = .ok (.aload_n 0, 1) := by decide +kernel
theorem dX4_takeBoat_89 : decode cX4_takeBoat 89 = .ok (.getfield 19, 3) := by decide +kernel
theorem dX4_takeBoat_92 : decode cX4_takeBoat 92 = .ok (.getfield 78, 3) := by decide +kernel
theorem dX4_takeBoat_95 : decode cX4_takeBoat 95 = .ok (.iload_n 1, 1) := by decide +kernel
theorem dX4_takeBoat_96 : decode cX4_takeBoat 96 = .ok (.aload_n 0, 1) := by decide +kernel
theorem dX4_takeBoat_97 : decode cX4_takeBoat 97 = .ok (.getfield 9, 3) := by decide +kernel
theorem dX4_takeBoat_100 : decode cX4_takeBoat 100 = .ok (.iconst 0, 1) := by decide +kernel
theorem dX4_takeBoat_101 : decode cX4_takeBoat 101 = .ok (.iaload, 1) := by decide +kernel
theorem dX4_takeBoat_102 : decode cX4_takeBoat 102 = .ok (.iastore, 1) := by decide +kernel
theorem dX4_takeBoat_103 : decode cX4_takeBoat 103 = .ok (.aload_n 0, 1) := by decide +kernel
theorem dX4_takeBoat_104 : decode cX4_takeBoat 104 = .ok (.getfield 19, 3) := by decide +kernel
theorem dX4_takeBoat_107 : decode cX4_takeBoat 107 = .ok (.getfield 81, 3) := by decide +kernel
theorem dX4_takeBoat_110 : decode cX4_takeBoat 110 = .ok (.iload_n 1, 1) := by decide +kernel
theorem dX4_takeBoat_111 : decode cX4_takeBoat 111 = .ok (.aload_n 0, 1) := by decide +kernel
theorem dX4_takeBoat_112 : decode cX4_takeBoat 112 = .ok (.getfield 9, 3) := by decide +kernel
theorem dX4_takeBoat_115 : decode cX4_takeBoat 115 = .ok (.iconst 1, 1) := by decide +kernel
theorem dX4_takeBoat_116 : decode cX4_takeBoat 116 = .ok (.iaload, 1) := by decide +kernel
theorem dX4_takeBoat_117 : decode cX4_takeBoat 117 = .ok (.iastore, 1) := by decide +kernel
theorem dX4_takeBoat_118 : decode cX4_takeBoat 118 = .ok (.aload_n 0, 1) := by decide +kernel
theorem dX4_takeBoat_119 : decode cX4_takeBoat 119 = .ok (.getfield 19, 3) := by decide +kernel
theorem dX4_takeBoat_122 : decode cX4_takeBoat 122 = .ok (.getfield 84, 3) := by decide +kernel
theorem dX4_takeBoat_125 : decode cX4_takeBoat 125 = .ok (.iload_n 1, 1) := by decide +kernel
theorem dX4_takeBoat_126 : decode cX4_takeBoat 126 = .ok (.aload_n 0, 1) := by decide +kernel
theorem dX4_takeBoat_127 : decode cX4_takeBoat 127 = .ok (.getfield 9, 3) := by decide +kernel
theorem dX4_takeBoat_130 : decode cX4_takeBoat 130 = .ok (.iconst 2, 1) := by decide +kernel
theorem dX4_takeBoat_131 : decode cX4_takeBoat 131 = .ok (.iaload, 1) := by decide +kernel
theorem dX4_takeBoat_132 : decode cX4_takeBoat 132 = .ok (.iastore, 1) := by decide +kernel
theorem dX4_takeBoat_133 : decode cX4_takeBoat 133 = .ok (.aload_n 0, 1) := by decide +kernel
theorem dX4_takeBoat_134 : decode cX4_takeBoat 134 = .ok (.getfield 19, 3) := by decide +kernel
theorem dX4_takeBoat_137 : decode cX4_takeBoat 137 = .ok (.getfield 87, 3) := by decide +kernel
theorem dX4_takeBoat_140 : decode cX4_takeBoat 140 = .ok (.iload_n 1, 1) := by decide +kernel
theorem dX4_takeBoat_141 : decode cX4_takeBoat 141 = .ok (.aload_n 0, 1) := by decide +kernel
theorem dX4_takeBoat_142 : decode cX4_takeBoat 142 = .ok (.getfield 9, 3) := by decide +kernel
theorem dX4_takeBoat_145 : decode cX4_takeBoat 145 = .ok (.iconst 3, 1) := by decide +kernel
theorem dX4_takeBoat_146 : decode cX4_takeBoat 146 = .ok (.iaload, 1) := by decide +kernel
theorem dX4_takeBoat_147 : decode cX4_takeBoat 147 = .ok (.iastore, 1) := by decide +kernel
theorem dX4_takeBoat_148 : decode cX4_takeBoat 148 = .ok (.aload_n 0, 1) := by decide +kernel
theorem dX4_takeBoat_149 : decode cX4_takeBoat 149 = .ok (.getfield 19, 3) := by decide +kernel
theorem dX4_takeBoat_152 : decode cX4_takeBoat 152 = .ok (.getfield 90, 3) := by decide +kernel
theorem dX4_takeBoat_155 : decode cX4_takeBoat 155 = .ok (.iload_n 1, 1) := by decide +kernel
theorem dX4_takeBoat_156 : decode cX4_takeBoat 156 = .ok (.aload_n 0, 1) := by decide +kernel
theorem dX4_takeBoat_157 : decode cX4_takeBoat 157 = .ok (.getfield 9, 3) := by decide +kernel
theorem dX4_takeBoat_160 : decode cX4_takeBoat 160 = .ok (.iconst 4, 1) := by decide +kernel
theorem dX4_takeBoat_161 : decode cX4_takeBoat 161 = .ok (.iaload, 1) := by decide +kernel
theorem dX4_takeBoat_162 : decode cX4_takeBoat 162 = .ok (.iastore, 1) := by decide +kernel
theorem dX4_takeBoat_163 : decode cX4_takeBoat 163 = .ok (.aload_n 0, 1) := by decide +kernel
theorem dX4_takeBoat_164 : decode cX4_takeBoat 164 = .ok (.getfield 19, 3) := by decide +kernel
theorem dX4_takeBoat_167 : decode cX4_takeBoat 167 = .ok (.iload_n 1, 1) := by decide +kernel
theorem dX4_takeBoat_168 : decode cX4_takeBoat 168 = .ok (.iconst 1, 1) := by decide +kernel
theorem dX4_takeBoat_169 : decode cX4_takeBoat 169 = .ok (.iadd, 1) := by decide +kernel
theorem dX4_takeBoat_170 : decode cX4_takeBoat 170 = .ok (.putfield 75, 3) := by decide +kernel
theorem dX4_takeBoat_173 : decode cX4_takeBoat 173 = .ok (.iconst 1, 1) := by decide +kernel
theorem dX4_takeBoat_174 : decode cX4_takeBoat 174 = .ok (.ireturn, 1) := by decide +kernel
theorem dX4_takeNarrow_0 : decode cX4_takeNarrow 0 = .ok (.aload_n 0, 1) := by decide +kernel
theorem dX4_takeNarrow_1 : decode cX4_takeNarrow 1 = .ok (.getfield 19, 3) := by decide +kernel
theorem dX4_takeNarrow_4 : decode cX4_takeNarrow 4 = .ok (.getfield 93, 3) := by decide +kernel
theorem dX4_takeNarrow_7 : decode cX4_takeNarrow 7 = .ok (.istore_n 1, 1) := by decide +kernel
theorem dX4_takeNarrow_8 : decode cX4_takeNarrow 8 = .ok (.iload_n 1, 1) := by decide +kernel
theorem dX4_takeNarrow_9 : decode cX4_takeNarrow 9 = .ok (.iconst 3, 1) := by decide +kernel
theorem dX4_takeNarrow_10 : decode cX4_takeNarrow 10 = .ok (.if_icmp .ge 29, 3) := by decide +kernel
theorem dX4_takeNarrow_13 : decode cX4_takeNarrow 13 = .ok (.aload_n 0, 1) := by decide +kernel
theorem dX4_takeNarrow_14 : decode cX4_takeNarrow 14 = .ok (.getfield 9, 3) := by decide +kernel
theorem dX4_takeNarrow_17 : decode cX4_takeNarrow 17 = .ok (.iconst 0, 1) := by decide +kernel
theorem dX4_takeNarrow_18 : decode cX4_takeNarrow 18 = .ok (.iaload, 1) := by decide +kernel
theorem dX4_takeNarrow_19 : decode cX4_takeNarrow 19 = .ok (.aload_n 0, 1) := by decide +kernel
theorem dX4_takeNarrow_20 : decode cX4_takeNarrow 20 = .ok (.getfield 9, 3) := by decide +kernel
theorem dX4_takeNarrow_23 : decode cX4_takeNarrow 23 = .ok (.iconst 1, 1) := by decide +kernel
theorem dX4_takeNarrow_24 : decode cX4_takeNarrow 24 = .ok (.iaload, 1) := by decide +kernel
theorem dX4_takeNarrow_25 : decode cX4_takeNarrow 25 = .ok (.if_icmp .gt 14, 3) := by decide +kernel
theorem dX4_takeNarrow_28 : decode cX4_takeNarrow 28 = .ok (.aload_n 0, 1) := by decide +kernel
theorem dX4_takeNarrow_29 : decode cX4_takeNarrow 29 = .ok (.getfield 9, 3) := by decide +kernel
theorem dX4_takeNarrow_32 : decode cX4_takeNarrow 32 = .ok (.iconst 1, 1) := by decide +kernel
theorem dX4_takeNarrow_33 : decode cX4_takeNarrow 33 = .ok (.iaload, 1) := by decide +kernel
theorem dX4_takeNarrow_34 : decode cX4_takeNarrow 34 = .ok (.bipush 60, 2) := by decide +kernel
theorem dX4_takeNarrow_36 : decode cX4_takeNarrow 36 = .ok (.if_icmp .le 5, 3) := by decide +kernel
theorem dX4_takeNarrow_39 : decode cX4_takeNarrow 39 = .ok (.iconst 0, 1) := by decide +kernel
theorem dX4_takeNarrow_40 : decode cX4_takeNarrow 40 = .ok (.ireturn, 1) := by decide +kernel
theorem dX4_takeNarrow_41 : decode cX4_takeNarrow 41 = .ok (.aload_n 0, 1) := by decide +kernel
theorem dX4_takeNarrow_42 : decode cX4_takeNarrow 42 = .ok (.getfield 19, 3) := by decide +kernel
theorem dX4_takeNarrow_45 : decode cX4_takeNarrow 45 = .ok (.getfield 96, 3) := by decide +kernel
theorem dX4_takeNarrow_48 : decode cX4_takeNarrow 48 = .ok (.iload_n 1, 1) := by decide +kernel
theorem dX4_takeNarrow_49 : decode cX4_takeNarrow 49 = .ok (.aload_n 0, 1) := by decide +kernel
theorem dX4_takeNarrow_50 : decode cX4_takeNarrow 50 = .ok (.getfield 9, 3) := by decide +kernel
theorem dX4_takeNarrow_53 : decode cX4_takeNarrow 53 = .ok (.iconst 0, 1) := by decide +kernel
theorem dX4_takeNarrow_54 : decode cX4_takeNarrow 54 = .ok (.iaload, 1) := by decide +kernel
theorem dX4_takeNarrow_55 : decode cX4_takeNarrow 55 = .ok (.iastore, 1) := by decide +kernel
theorem dX4_takeNarrow_56 : decode cX4_takeNarrow 56 = .ok (.aload_n 0, 1) := by decide +kernel
theorem dX4_takeNarrow_57 : decode cX4_takeNarrow 57 = .ok (.getfield 19, 3) := by decide +kernel
theorem dX4_takeNarrow_60 : decode cX4_takeNarrow 60 = .ok (.getfield 99, 3) := by decide +kernel
theorem dX4_takeNarrow_63 : decode cX4_takeNarrow 63 = .ok (.iload_n 1, 1) := by decide +kernel
theorem dX4_takeNarrow_64 : decode cX4_takeNarrow 64 = .ok (.aload_n 0, 1) := by decide +kernel
theorem dX4_takeNarrow_65 : decode cX4_takeNarrow 65 = .ok (.getfield 9, 3) := by decide +kernel
theorem dX4_takeNarrow_68 : decode cX4_takeNarrow 68 = .ok (.iconst 1, 1) := by decide +kernel
theorem dX4_takeNarrow_69 : decode cX4_takeNarrow 69 = .ok (.iaload, 1) := by decide +kernel
theorem dX4_takeNarrow_70 : decode cX4_takeNarrow 70 = .ok (.iastore, 1) := by decide +kernel
theorem dX4_takeNarrow_71 : decode cX4_takeNarrow 71 = .ok (.aload_n 0, 1) := by decide +kernel
theorem dX4_takeNarrow_72 : decode cX4_takeNarrow 72 = .ok (.getfield 19, 3) := by decide +kernel
theorem dX4_takeNarrow_75 : decode cX4_takeNarrow 75 = .ok (.iload_n 1, 1) := by decide +kernel
theorem dX4_takeNarrow_76 : decode cX4_takeNarrow 76 = .ok (.iconst 1, 1) := by decide +kernel
theorem dX4_takeNarrow_77 : decode cX4_takeNarrow 77 = .ok (.iadd, 1) := by decide +kernel
theorem dX4_takeNarrow_78 : decode cX4_takeNarrow 78 = .ok (.putfield 93, 3) := by decide +kernel
theorem dX4_takeNarrow_81 : decode cX4_takeNarrow 81 = .ok (.iconst 1, 1) := by decide +kernel
theorem dX4_takeNarrow_82 : decode cX4_takeNarrow 82 = .ok (.ireturn, 1) := by decide +kernel
theorem dX4_takeYield_0 : decode cX4_takeYield 0 = .ok (.aload_n 0, 1) := by decide +kernel
theorem dX4_takeYield_1 : decode cX4_takeYield 1 = .ok (.getfield 19, 3) := by decide +kernel
theorem dX4_takeYield_4 : decode cX4_takeYield 4 = .ok (.aload_n 0, 1) := by decide +kernel
theorem dX4_takeYield_5 : decode cX4_takeYield 5 = .ok (.getfield 9, 3) := by decide +kernel
theorem dX4_takeYield_8 : decode cX4_takeYield 8 = .ok (.iconst 0, 1) := by decide +kernel
theorem dX4_takeYield_9 : decode cX4_takeYield 9 = .ok (.iaload, 1) := by decide +kernel
theorem dX4_takeYield_10 : decode cX4_takeYield 10 = .ok (.putfield 102, 3) := by decide +kernel
theorem dX4_takeYield_13 : decode cX4_takeYield 13 = .ok (.aload_n 0, 1) := by decide +kernel
theorem dX4_takeYield_14 : decode cX4_takeYield 14 = .ok (.getfield 9, 3) := by decide +kernel
theorem dX4_takeYield_17 : decode cX4_takeYield 17 = .ok (.iconst 0, 1) := by decide +kernel
theorem dX4_takeYield_18 : decode cX4_takeYield 18 = .ok (.iaload, 1) := by decide +kernel
theorem dX4_takeYield_19 : decode cX4_takeYield 19 = .ok (.iconst 1, 1) := by decide +kernel
theorem dX4_takeYield_20 : decode cX4_takeYield 20 = .ok (.bipush 9, 2) := by decide +kernel
theorem dX4_takeYield_22 : decode cX4_takeYield 22 = .ok (.invokestatic 55, 3) := by decide +kernel
theorem dX4_takeYield_25 : decode cX4_takeYield 25 = .ok (.ireturn, 1) := by decide +kernel
theorem dX4_takeHeld_0 : decode cX4_takeHeld 0 = .ok (.aload_n 0, 1) := by decide +kernel
theorem dX4_takeHeld_1 : decode cX4_takeHeld 1 = .ok (.getfield 19, 3) := by decide +kernel
theorem dX4_takeHeld_4 : decode cX4_takeHeld 4 = .ok (.aload_n 0, 1) := by decide +kernel
theorem dX4_takeHeld_5 : decode cX4_takeHeld 5 = .ok (.getfield 9, 3) := by decide +kernel
theorem dX4_takeHeld_8 : decode cX4_takeHeld 8 = .ok (.iconst 0, 1) := by decide +kernel
theorem dX4_takeHeld_9 : decode cX4_takeHeld 9 = .ok (.iaload, 1) := by decide +kernel
theorem dX4_takeHeld_10 : decode cX4_takeHeld 10 = .ok (.putfield 105, 3) := by decide +kernel
theorem dX4_takeHeld_13 : decode cX4_takeHeld 13 = .ok (.aload_n 0, 1) := by decide +kernel
theorem dX4_takeHeld_14 : decode cX4_takeHeld 14 = .ok (.getfield 9, 3) := by decide +kernel
theorem dX4_takeHeld_17 : decode cX4_takeHeld 17 = .ok (.iconst 0, 1) := by decide +kernel
theorem dX4_takeHeld_18 : decode cX4_takeHeld 18 = .ok (.iaload, 1) := by decide +kernel
theorem dX4_takeHeld_19 : decode cX4_takeHeld 19 = .ok (.iconst 1, 1) := by decide +kernel
theorem dX4_takeHeld_20 : decode cX4_takeHeld 20 = .ok (.bipush 30, 2) := by decide +kernel
theorem dX4_takeHeld_22 : decode cX4_takeHeld 22 = .ok (.invokestatic 55, 3) := by decide +kernel
theorem dX4_takeHeld_25 : decode cX4_takeHeld 25 = .ok (.ireturn, 1) := by decide +kernel
theorem dX4_takeLine_0 : decode cX4_takeLine 0 = .ok (.aload_n 0, 1) := by decide +kernel
theorem dX4_takeLine_1 : decode cX4_takeLine 1 = .ok (.getfield 19, 3) := by decide +kernel
theorem dX4_takeLine_4 : decode cX4_takeLine 4 = .ok (.aload_n 0, 1) := by decide +kernel
theorem dX4_takeLine_5 : decode cX4_takeLine 5 = .ok (.getfield 9, 3) := by decide +kernel
theorem dX4_takeLine_8 : decode cX4_takeLine 8 = .ok (.iconst 0, 1) := by decide +kernel
theorem dX4_takeLine_9 : decode cX4_takeLine 9 = .ok (.iaload, 1) := by decide +kernel
theorem dX4_takeLine_10 : decode cX4_takeLine 10 = .ok (.putfield 108, 3) := by decide +kernel
theorem dX4_takeLine_13 : decode cX4_takeLine 13 = .ok (.aload_n 0, 1) := by decide +kernel
theorem dX4_takeLine_14 : decode cX4_takeLine 14 = .ok (.getfield 19, 3) := by decide +kernel
theorem dX4_takeLine_17 : decode cX4_takeLine 17 = .ok (.aload_n 0, 1) := by decide +kernel
theorem dX4_takeLine_18 : decode cX4_takeLine 18 = .ok (.getfield 9, 3) := by decide +kernel
theorem dX4_takeLine_21 : decode cX4_takeLine 21 = .ok (.iconst 1, 1) := by decide +kernel
theorem dX4_takeLine_22 : decode cX4_takeLine 22 = .ok (.iaload, 1) := by decide +kernel
theorem dX4_takeLine_23 : decode cX4_takeLine 23 = .ok (.putfield 111, 3) := by decide +kernel
theorem dX4_takeLine_26 : decode cX4_takeLine 26 = .ok (.aload_n 0, 1) := by decide +kernel
theorem dX4_takeLine_27 : decode cX4_takeLine 27 = .ok (.getfield 9, 3) := by decide +kernel
theorem dX4_takeLine_30 : decode cX4_takeLine 30 = .ok (.iconst 0, 1) := by decide +kernel
theorem dX4_takeLine_31 : decode cX4_takeLine 31 = .ok (.iaload, 1) := by decide +kernel
theorem dX4_takeLine_32 : decode cX4_takeLine 32 = .ok (.iconst 1, 1) := by decide +kernel
theorem dX4_takeLine_33 : decode cX4_takeLine 33 = .ok (.iconst 5, 1) := by decide +kernel
theorem dX4_takeLine_34 : decode cX4_takeLine 34 = .ok (.invokestatic 55, 3) := by decide +kernel
theorem dX4_takeLine_37 : decode cX4_takeLine 37 = .ok (.ifCond .eq 22, 3) := by decide +kernel
theorem dX4_takeLine_40 : decode cX4_takeLine 40 = .ok (.aload_n 0, 1) := by decide +kernel
theorem dX4_takeLine_41 : decode cX4_takeLine 41 = .ok (.getfield 9, 3) := by decide +kernel
theorem dX4_takeLine_44 : decode cX4_takeLine 44 = .ok (.iconst 1, 1) := by decide +kernel
theorem dX4_takeLine_45 : decode cX4_takeLine 45 = .ok (.iaload, 1) := by decide +kernel
theorem dX4_takeLine_46 : decode cX4_takeLine 46 = .ok (.iconst 1, 1) := by decide +kernel
theorem dX4_takeLine_47 : decode cX4_takeLine 47 = .ok (.bipush 9, 2) := by decide +kernel
theorem dX4_takeLine_49 : decode cX4_takeLine 49 = .ok (.invokestatic 55, 3) := by decide +kernel
theorem dX4_takeLine_52 : decode cX4_takeLine 52 = .ok (.ifCond .eq 7, 3) := by decide +kernel
theorem dX4_takeLine_55 : decode cX4_takeLine 55 = .ok (.iconst 1, 1) := by decide +kernel
theorem dX4_takeLine_56 : decode cX4_takeLine 56 = .ok (.goto 4, 3) := by decide +kernel
theorem dX4_takeLine_59 : decode cX4_takeLine 59 = .ok (.iconst 0, 1) := by decide +kernel
theorem dX4_takeLine_60 : decode cX4_takeLine 60 = .ok (.ireturn, 1) := by decide +kernel
theorem dX5_init_0 : decode cX5_init 0 = .ok (.aload_n 0, 1) := by decide +kernel
theorem dX5_init_1 : decode cX5_init 1 = .ok (.invokespecial 3, 3) := by decide +kernel
theorem dX5_init_4 : decode cX5_init 4 = .ok (.aload_n 0, 1) := by decide +kernel
theorem dX5_init_5 : decode cX5_init 5 = .ok (.aload_n 1, 1) := by decide +kernel
theorem dX5_init_6 : decode cX5_init 6 = .ok (.putfield 9, 3) := by decide +kernel
theorem dX5_init_9 : decode cX5_init 9 = .ok (.return_, 1) := by decide +kernel
theorem dX5_yielder_0 : decode cX5_yielder 0 = .ok (.aload_n 0, 1) := by decide +kernel
theorem dX5_yielder_1 : decode cX5_yielder 1 = .ok (.getfield 9, 3) := by decide +kernel
theorem dX5_yielder_4 : decode cX5_yielder 4 = .ok (.getfield 15, 3) := by decide +kernel
theorem dX5_yielder_7 : decode cX5_yielder 7 = .ok (.iload_n 3, 1) := by decide +kernel
theorem dX5_yielder_8 : decode cX5_yielder 8 = .ok (.iaload, 1) := by decide +kernel
theorem dX5_yielder_9 : decode cX5_yielder 9 = .ok (.iconst 2, 1) := by decide +kernel
theorem dX5_yielder_10 : decode cX5_yielder 10 = .ok (.if_icmp .ne 7, 3) := by decide +kernel
theorem dX5_yielder_13 : decode cX5_yielder 13 = .ok (.iconst 1, 1) := by decide +kernel
theorem dX5_yielder_14 : decode cX5_yielder 14 = .ok (.goto 4, 3) := by decide +kernel
theorem dX5_yielder_17 : decode cX5_yielder 17 = .ok (.iconst 0, 1) := by decide +kernel
theorem dX5_yielder_18 : decode cX5_yielder 18 = .ok (.istore 5, 2) := by decide +kernel
theorem dX5_yielder_20 : decode cX5_yielder 20 = .ok (.aload_n 0, 1) := by decide +kernel
theorem dX5_yielder_21 : decode cX5_yielder 21 = .ok (.getfield 9, 3) := by decide +kernel
theorem dX5_yielder_24 : decode cX5_yielder 24 = .ok (.getfield 15, 3) := by decide +kernel
theorem dX5_yielder_27 : decode cX5_yielder 27 = .ok (.iload 4, 2) := by decide +kernel
theorem dX5_yielder_29 : decode cX5_yielder 29 = .ok (.iaload, 1) := by decide +kernel
theorem dX5_yielder_30 : decode cX5_yielder 30 = .ok (.iconst 2, 1) := by decide +kernel
theorem dX5_yielder_31 : decode cX5_yielder 31 = .ok (.if_icmp .ne 7, 3) := by decide +kernel
theorem dX5_yielder_34 : decode cX5_yielder 34 = .ok (.iconst 1, 1) := by decide +kernel
theorem dX5_yielder_35 : decode cX5_yielder 35 = .ok (.goto 4, 3) := by decide +kernel
theorem dX5_yielder_38 : decode cX5_yielder 38 = .ok (.iconst 0, 1) := by decide +kernel
theorem dX5_yielder_39 : decode cX5_yielder 39 = .ok (.istore 6, 2) := by decide +kernel
theorem dX5_yielder_41 : decode cX5_yielder 41 = .ok (.iload 5, 2) := by decide +kernel
theorem dX5_yielder_43 : decode cX5_yielder 43 = .ok (.ifCond .eq 11, 3) := by decide +kernel
theorem dX5_yielder_46 : decode cX5_yielder 46 = .ok (.iload 6, 2) := by decide +kernel
theorem dX5_yielder_48 : decode cX5_yielder 48 = .ok (.ifCond .eq 6, 3) := by decide +kernel
theorem dX5_yielder_51 : decode cX5_yielder 51 = .ok (.bipush (-4), 2) := by decide +kernel
theorem dX5_yielder_53 : decode cX5_yielder 53 = .ok (.ireturn, 1) := by decide +kernel
theorem dX5_yielder_54 : decode cX5_yielder 54 = .ok (.iload 5, 2) := by decide +kernel
theorem dX5_yielder_56 : decode cX5_yielder 56 = .ok (.ifCond .ne 8, 3) := by decide +kernel
theorem dX5_yielder_59 : decode cX5_yielder 59 = .ok (.iload 6, 2) := by decide +kernel
theorem dX5_yielder_61 : decode cX5_yielder 61 = .ok (.ifCond .eq 15, 3) := by decide +kernel
theorem dX5_yielder_64 : decode cX5_yielder 64 = .ok (.iload 5, 2) := by decide +kernel
theorem dX5_yielder_66 : decode cX5_yielder 66 = .ok (.ifCond .eq 8, 3) := by decide +kernel
theorem dX5_yielder_69 : decode cX5_yielder 69 = .ok (.iload 4, 2) := by decide +kernel
theorem dX5_yielder_71 : decode cX5_yielder 71 = .ok (.goto 4, 3) := by decide +kernel
theorem dX5_yielder_74 : decode cX5_yielder 74 = .ok (.iload_n 3, 1) := by decide +kernel
theorem dX5_yielder_75 : decode cX5_yielder 75 = .ok (.ireturn, 1) := by decide +kernel
theorem dX5_yielder_76 : decode cX5_yielder 76 = .ok (.aload_n 0, 1) := by decide +kernel
theorem dX5_yielder_77 : decode cX5_yielder 77 = .ok (.getfield 9, 3) := by decide +kernel
theorem dX5_yielder_80 : decode cX5_yielder 80 = .ok (.getfield 15, 3) := by decide +kernel
theorem dX5_yielder_83 : decode cX5_yielder 83 = .ok (.iload_n 3, 1) := by decide +kernel
theorem dX5_yielder_84 : decode cX5_yielder 84 = .ok (.iaload, 1) := by decide +kernel
theorem dX5_yielder_85 : decode cX5_yielder 85 = .ok (.iconst 3, 1) := by decide +kernel
theorem dX5_yielder_86 : decode cX5_yielder 86 = .ok (.if_icmp .ne 7, 3) := by decide +kernel
theorem dX5_yielder_89 : decode cX5_yielder 89 = .ok (.iconst 1, 1) := by decide +kernel
theorem dX5_yielder_90 : decode cX5_yielder 90 = .ok (.goto 4, 3) := by decide +kernel
theorem dX5_yielder_93 : decode cX5_yielder 93 = .ok (.iconst 0, 1) := by decide +kernel
theorem dX5_yielder_94 : decode cX5_yielder 94 = .ok (.istore 7, 2) := by decide +kernel
theorem dX5_yielder_96 : decode cX5_yielder 96 = .ok (.iload 7, 2) := by decide +kernel
theorem dX5_yielder_98 : decode cX5_yielder 98 = .ok (.aload_n 0, 1) := by decide +kernel
theorem dX5_yielder_99 : decode cX5_yielder 99 = .ok (.getfield 9, 3) := by decide +kernel
theorem dX5_yielder_102 : decode cX5_yielder 102 = .ok (.getfield 15, 3) := by decide +kernel
theorem dX5_yielder_105 : decode cX5_yielder 105 = .ok (.iload 4, 2) := by decide +kernel
theorem dX5_yielder_107 : decode cX5_yielder 107 = .ok (.iaload, 1) := by decide +kernel
theorem dX5_yielder_108 : decode cX5_yielder 108 = .ok (.iconst 3, 1) := by decide +kernel
theorem dX5_yielder_109 : decode cX5_yielder 109 = .ok (.if_icmp .ne 7, 3) := by decide +kernel
theorem dX5_yielder_112 : decode cX5_yielder 112 = .ok (.iconst 1, 1) := by decide +kernel
theorem dX5_yielder_113 : decode cX5_yielder 113 = .ok (.goto 4, 3) := by decide +kernel
theorem dX5_yielder_116 : decode cX5_yielder 116 = .ok (.iconst 0, 1) := by decide +kernel
theorem dX5_yielder_117 : decode cX5_yielder 117 = .ok (.if_icmp .eq 15, 3) := by decide +kernel
theorem dX5_yielder_120 : decode cX5_yielder 120 = .ok (.iload 7, 2) := by decide +kernel
theorem dX5_yielder_122 : decode cX5_yielder 122 = .ok (.ifCond .eq 7, 3) := by decide +kernel
theorem dX5_yielder_125 : decode cX5_yielder 125 = .ok (.iload_n 3, 1) := by decide +kernel
theorem dX5_yielder_126 : decode cX5_yielder 126 = .ok (.goto 5, 3) := by decide +kernel
theorem dX5_yielder_129 : decode cX5_yielder 129 = .ok (.iload 4, 2) := by decide +kernel
theorem dX5_yielder_131 : decode cX5_yielder 131 = .ok (.ireturn, 1) := by decide +kernel
theorem dX5_yielder_132 : decode cX5_yielder 132 = .ok (.aload_n 0, 1) := by decide +kernel
theorem dX5_yielder_133 : decode cX5_yielder 133 = .ok (.aload_n 1, 1) := by decide +kernel
theorem dX5_yielder_134 : decode cX5_yielder 134 = .ok (.iload_n 2, 1) := by decide +kernel
theorem dX5_yielder_135 : decode cX5_yielder 135 = .ok (.iload_n 3, 1) := by decide +kernel
theorem dX5_yielder_136 : decode cX5_yielder 136 = .ok (.invokevirtual 21, 3) := by decide +kernel
theorem dX5_yielder_139 : decode cX5_yielder 139 = .ok (.istore 8, 2) := by decide +kernel
theorem dX5_yielder_141 : decode cX5_yielder 141 = .ok (.aload_n 0, 1) := by decide +kernel
theorem dX5_yielder_142 : decode cX5_yielder 142 = .ok (.aload_n 1, 1) := by decide +kernel
theorem dX5_yielder_143 : decode cX5_yielder 143 = .ok (.iload_n 2, 1) := by decide +kernel
theorem dX5_yielder_144 : decode cX5_yielder 144 = .ok (.iload 4, 2) := by decide +kernel
theorem dX5_yielder_146 : decode cX5_yielder 146 = .ok (.invokevirtual 21, 3) := by decide +kernel
theorem dX5_yielder_149 : decode cX5_yielder 149 = .ok (.istore 9, 2) := by decide +kernel
theorem dX5_yielder_151 : decode cX5_yielder 151 = .ok (.iload 8, 2) := by decide +kernel
theorem dX5_yielder_153 : decode cX5_yielder 153 = .ok (.iload 9, 2) := by decide +kernel
theorem dX5_yielder_155 : decode cX5_yielder 155 = .ok (.if_icmp .ne 12, 3) := by decide +kernel
theorem dX5_yielder_158 : decode cX5_yielder 158 = .ok (.aload_n 0, 1) := by decide +kernel
theorem dX5_yielder_159 : decode cX5_yielder 159 = .ok (.aload_n 1, 1) := by decide +kernel
theorem dX5_yielder_160 : decode cX5_yielder 160 = .ok (.iload_n 3, 1) := by decide +kernel
theorem dX5_yielder_161 : decode cX5_yielder 161 = .ok (.iload 4, 2) := by decide +kernel
theorem dX5_yielder_163 : decode cX5_yielder 163 = .ok (.invokevirtual 25, 3) := by decide +kernel
theorem dX5_yielder_166 : decode cX5_yielder 166 = .ok (.ireturn, 1) := by decide +kernel
theorem dX5_yielder_167 : decode cX5_yielder 167 = .ok (.iload 8, 2) := by decide +kernel
theorem dX5_yielder_169 : decode cX5_yielder 169 = .ok (.iload 9, 2) := by decide +kernel
theorem dX5_yielder_171 : decode cX5_yielder 171 = .ok (.if_icmp .ge 7, 3) := by decide +kernel
theorem dX5_yielder_174 : decode cX5_yielder 174 = .ok (.iload_n 3, 1) := by decide +kernel
theorem dX5_yielder_175 : decode cX5_yielder 175 = .ok (.goto 5, 3) := by decide +kernel
theorem dX5_yielder_178 : decode cX5_yielder 178 = .ok (.iload 4, 2) := by decide +kernel
theorem dX5_yielder_180 : decode cX5_yielder 180 = .ok (.ireturn, 1) := by decide +kernel
theorem dX5_weight_0 : decode cX5_weight 0 = .ok (.iload_n 2, 1) := by decide +kernel
theorem dX5_weight_1 : decode cX5_weight 1 = .ok (.tableswitch 68 1 3 #[27, 34, 44], 27) := by decide +kernel
theorem dX5_weight_28 : decode cX5_weight 28 = .ok (.aload_n 1, 1) := by decide +kernel
theorem dX5_weight_29 : decode cX5_weight 29 = .ok (.getfield 28, 3) := by decide +kernel
theorem dX5_weight_32 : decode cX5_weight 32 = .ok (.iload_n 3, 1) := by decide +kernel
theorem dX5_weight_33 : decode cX5_weight 33 = .ok (.iaload, 1) := by decide +kernel
theorem dX5_weight_34 : decode cX5_weight 34 = .ok (.ireturn, 1) := by decide +kernel
theorem dX5_weight_35 : decode cX5_weight 35 = .ok (.aload_n 0, 1) := by decide +kernel
theorem dX5_weight_36 : decode cX5_weight 36 = .ok (.getfield 9, 3) := by decide +kernel
theorem dX5_weight_39 : decode cX5_weight 39 = .ok (.getfield 33, 3) := by decide +kernel
theorem dX5_weight_42 : decode cX5_weight 42 = .ok (.iload_n 3, 1) := by decide +kernel
theorem dX5_weight_43 : decode cX5_weight 43 = .ok (.iaload, 1) := by decide +kernel
theorem dX5_weight_44 : decode cX5_weight 44 = .ok (.ireturn, 1) := by decide +kernel
theorem dX5_weight_45 : decode cX5_weight 45 = .ok (.aload_n 0, 1) := by decide +kernel
theorem dX5_weight_46 : decode cX5_weight 46 = .ok (.getfield 9, 3) := by decide +kernel
theorem dX5_weight_49 : decode cX5_weight 49 = .ok (.getfield 36, 3) := by decide +kernel
theorem dX5_weight_52 : decode cX5_weight 52 = .ok (.aload_n 1, 1) := by decide +kernel
theorem dX5_weight_53 : decode cX5_weight 53 = .ok (.getfield 28, 3) := by decide +kernel
theorem dX5_weight_56 : decode cX5_weight 56 = .ok (.iload_n 3, 1) := by decide +kernel
theorem dX5_weight_57 : decode cX5_weight 57 = .ok (.iaload, 1) := by decide +kernel
theorem dX5_weight_58 : decode cX5_weight 58 = .ok (.iadd, 1) := by decide +kernel
theorem dX5_weight_59 : decode cX5_weight 59 = .ok (.aload_n 1, 1) := by decide +kernel
theorem dX5_weight_60 : decode cX5_weight 60 = .ok (.getfield 28, 3) := by decide +kernel
theorem dX5_weight_63 : decode cX5_weight 63 = .ok (.iload_n 3, 1) := by decide +kernel
theorem dX5_weight_64 : decode cX5_weight 64 = .ok (.iaload, 1) := by decide +kernel
theorem dX5_weight_65 : decode cX5_weight 65 = .ok (.iconst 1, 1) := by decide +kernel
theorem dX5_weight_66 : decode cX5_weight 66 = .ok (.iadd, 1) := by decide +kernel
theorem dX5_weight_67 : decode cX5_weight 67 = .ok (.imul, 1) := by decide +kernel
theorem dX5_weight_68 : decode cX5_weight 68 = .ok (.ireturn, 1) := by decide +kernel
theorem dX5_weight_69 : decode cX5_weight 69 = .ok (.iconst 0, 1) := by decide +kernel
theorem dX5_weight_70 : decode cX5_weight 70 = .ok (.ireturn, 1) := by decide +kernel
theorem dX5_byCustom_0 : decode cX5_byCustom 0 = .ok (.aload_n 0, 1) := by decide +kernel
theorem dX5_byCustom_1 : decode cX5_byCustom 1 = .ok (.getfield 9, 3) := by decide +kernel
theorem dX5_byCustom_4 : decode cX5_byCustom 4 = .ok (.getfield 15, 3) := by decide +kernel
theorem dX5_byCustom_7 : decode cX5_byCustom 7 = .ok (.iload_n 2, 1) := by decide +kernel
theorem dX5_byCustom_8 : decode cX5_byCustom 8 = .ok (.iaload, 1) := by decide +kernel
theorem dX5_byCustom_9 : decode cX5_byCustom 9 = .ok (.iconst 1, 1) := by decide +kernel
theorem dX5_byCustom_10 : decode cX5_byCustom 10 = .ok (.if_icmp .ne 7, 3) := by decide +kernel
theorem dX5_byCustom_13 : decode cX5_byCustom 13 = .ok (.iconst 1, 1) := by decide +kernel
theorem dX5_byCustom_14 : decode cX5_byCustom 14 = .ok (.goto 4, 3) := by decide +kernel
theorem dX5_byCustom_17 : decode cX5_byCustom 17 = .ok (.iconst 0, 1) := by decide +kernel
theorem dX5_byCustom_18 : decode cX5_byCustom 18 = .ok (.istore 4, 2) := by decide +kernel
theorem dX5_byCustom_20 : decode cX5_byCustom 20 = .ok (.iload 4, 2) := by decide +kernel
theorem dX5_byCustom_22 : decode cX5_byCustom 22 = .ok (.aload_n 0, 1) := by decide +kernel
theorem dX5_byCustom_23 : decode cX5_byCustom 23 = .ok (.getfield 9, 3) := by decide +kernel
theorem dX5_byCustom_26 : decode cX5_byCustom 26 = .ok (.getfield 15, 3) := by decide +kernel
theorem dX5_byCustom_29 : decode cX5_byCustom 29 = .ok (.iload_n 3, 1) := by decide +kernel
theorem dX5_byCustom_30 : decode cX5_byCustom 30 = .ok (.iaload, 1) := by decide +kernel
theorem dX5_byCustom_31 : decode cX5_byCustom 31 = .ok (.iconst 1, 1) := by decide +kernel
theorem dX5_byCustom_32 : decode cX5_byCustom 32 = .ok (.if_icmp .ne 7, 3) := by decide +kernel
theorem dX5_byCustom_35 : decode cX5_byCustom 35 = .ok (.iconst 1, 1) := by decide +kernel
theorem dX5_byCustom_36 : decode cX5_byCustom 36 = .ok (.goto 4, 3) := by decide +kernel
theorem dX5_byCustom_39 : decode cX5_byCustom 39 = .ok (.iconst 0, 1) := by decide +kernel
theorem dX5_byCustom_40 : decode cX5_byCustom 40 = .ok (.if_icmp .eq 14, 3) := by decide +kernel
theorem dX5_byCustom_43 : decode cX5_byCustom 43 = .ok (.iload 4, 2) := by decide +kernel
theorem dX5_byCustom_45 : decode cX5_byCustom 45 = .ok (.ifCond .eq 7, 3) := by decide +kernel
theorem dX5_byCustom_48 : decode cX5_byCustom 48 = .ok (.iload_n 3, 1) := by decide +kernel
theorem dX5_byCustom_49 : decode cX5_byCustom 49 = .ok (.goto 4, 3) := by decide +kernel
theorem dX5_byCustom_52 : decode cX5_byCustom 52 = .ok (.iload_n 2, 1) := by decide +kernel
theorem dX5_byCustom_53 : decode cX5_byCustom 53 = .ok (.ireturn, 1) := by decide +kernel
theorem dX5_byCustom_54 : decode cX5_byCustom 54 = .ok (.aload_n 1, 1) := by decide +kernel
theorem dX5_byCustom_55 : decode cX5_byCustom 55 = .ok (.getfield 28, 3) := by decide +kernel
theorem dX5_byCustom_58 : decode cX5_byCustom 58 = .ok (.iload_n 2, 1) := by decide +kernel
theorem dX5_byCustom_59 : decode cX5_byCustom 59 = .ok (.iaload, 1) := by decide +kernel
theorem dX5_byCustom_60 : decode cX5_byCustom 60 = .ok (.ifCond .ne 7, 3) := by decide +kernel
theorem dX5_byCustom_63 : decode cX5_byCustom 63 = .ok (.iconst 1, 1) := by decide +kernel
theorem dX5_byCustom_64 : decode cX5_byCustom 64 = .ok (.goto 4, 3) := by decide +kernel
theorem dX5_byCustom_67 : decode cX5_byCustom 67 = .ok (.iconst 0, 1) := by decide +kernel
theorem dX5_byCustom_68 : decode cX5_byCustom 68 = .ok (.istore 5, 2) := by decide +kernel
theorem dX5_byCustom_70 : decode cX5_byCustom 70 = .ok (.iload 5, 2) := by decide +kernel
theorem dX5_byCustom_72 : decode cX5_byCustom 72 = .ok (.aload_n 1, 1) := by decide +kernel
theorem dX5_byCustom_73 : decode cX5_byCustom 73 = .ok (.getfield 28, 3) := by decide +kernel
theorem dX5_byCustom_76 : decode cX5_byCustom 76 = .ok (.iload_n 3, 1) := by decide +kernel
theorem dX5_byCustom_77 : decode cX5_byCustom 77 = .ok (.iaload, 1) := by decide +kernel
theorem dX5_byCustom_78 : decode cX5_byCustom 78 = .ok (.ifCond .ne 7, 3) := by decide +kernel
theorem dX5_byCustom_81 : decode cX5_byCustom 81 = .ok (.iconst 1, 1) := by decide +kernel
theorem dX5_byCustom_82 : decode cX5_byCustom 82 = .ok (.goto 4, 3) := by decide +kernel
theorem dX5_byCustom_85 : decode cX5_byCustom 85 = .ok (.iconst 0, 1) := by decide +kernel
theorem dX5_byCustom_86 : decode cX5_byCustom 86 = .ok (.if_icmp .eq 14, 3) := by decide +kernel
theorem dX5_byCustom_89 : decode cX5_byCustom 89 = .ok (.iload 5, 2) := by decide +kernel
theorem dX5_byCustom_91 : decode cX5_byCustom 91 = .ok (.ifCond .eq 7, 3) := by decide +kernel
theorem dX5_byCustom_94 : decode cX5_byCustom 94 = .ok (.iload_n 2, 1) := by decide +kernel
theorem dX5_byCustom_95 : decode cX5_byCustom 95 = .ok (.goto 4, 3) := by decide +kernel
theorem dX5_byCustom_98 : decode cX5_byCustom 98 = .ok (.iload_n 3, 1) := by decide +kernel
theorem dX5_byCustom_99 : decode cX5_byCustom 99 = .ok (.ireturn, 1) := by decide +kernel
theorem dX5_byCustom_100 : decode cX5_byCustom 100 = .ok (.aload_n 0, 1) := by decide +kernel
theorem dX5_byCustom_101 : decode cX5_byCustom 101 = .ok (.getfield 9, 3) := by decide +kernel
theorem dX5_byCustom_104 : decode cX5_byCustom 104 = .ok (.getfield 40, 3) := by decide +kernel
theorem dX5_byCustom_107 : decode cX5_byCustom 107 = .ok (.iload_n 2, 1) := by decide +kernel
theorem dX5_byCustom_108 : decode cX5_byCustom 108 = .ok (.iaload, 1) := by decide +kernel
theorem dX5_byCustom_109 : decode cX5_byCustom 109 = .ok (.iconst 1, 1) := by decide +kernel
theorem dX5_byCustom_110 : decode cX5_byCustom 110 = .ok (.if_icmp .ne 7, 3) := by decide +kernel
theorem dX5_byCustom_113 : decode cX5_byCustom 113 = .ok (.iload_n 2, 1) := by decide +kernel
theorem dX5_byCustom_114 : decode cX5_byCustom 114 = .ok (.goto 4, 3) := by decide +kernel
theorem dX5_byCustom_117 : decode cX5_byCustom 117 = .ok (.iload_n 3, 1) := by decide +kernel
theorem dX5_byCustom_118 : decode cX5_byCustom 118 = .ok (.ireturn, 1) := by decide +kernel
theorem dX6_init_0 : decode cX6_init 0 = .ok (.aload_n 0, 1) := by decide +kernel
theorem dX6_init_1 : decode cX6_init 1 = .ok (.invokespecial 3, 3) := by decide +kernel
theorem dX6_init_4 : decode cX6_init 4 = .ok (.aload_n 0, 1) := by decide +kernel
theorem dX6_init_5 : decode cX6_init 5 = .ok (.bipush 8, 2) := by decide +kernel
theorem dX6_init_7 : decode cX6_init 7 = .ok (.newarray .int, 2) := by decide +kernel
theorem dX6_init_9 : decode cX6_init 9 = .ok (.putfield 9, 3) := by decide +kernel
theorem dX6_init_12 : decode cX6_init 12 = .ok (.aload_n 0, 1) := by decide +kernel
theorem dX6_init_13 : decode cX6_init 13 = .ok (.bipush 8, 2) := by decide +kernel
theorem dX6_init_15 : decode cX6_init 15 = .ok (.newarray .int, 2) := by decide +kernel
theorem dX6_init_17 : decode cX6_init 17 = .ok (.putfield 15, 3) := by decide +kernel
theorem dX6_init_20 : decode cX6_init 20 = .ok (.aload_n 0, 1) := by decide +kernel
theorem dX6_init_21 : decode cX6_init 21 = .ok (.iconst 0, 1) := by decide +kernel
theorem dX6_init_22 : decode cX6_init 22 = .ok (.putfield 18, 3) := by decide +kernel
theorem dX6_init_25 : decode cX6_init 25 = .ok (.return_, 1) := by decide +kernel
theorem dX6_add_0 : decode cX6_add 0 = .ok (.aload_n 0, 1) := by decide +kernel
theorem dX6_add_1 : decode cX6_add 1 = .ok (.getfield 18, 3) := by decide +kernel
theorem dX6_add_4 : decode cX6_add 4 = .ok (.bipush 8, 2) := by decide +kernel
theorem dX6_add_6 : decode cX6_add 6 = .ok (.if_icmp .lt 5, 3) := by decide +kernel
theorem dX6_add_9 : decode cX6_add 9 = .ok (.iconst 0, 1) := by decide +kernel
theorem dX6_add_10 : decode cX6_add 10 = .ok (.ireturn, 1) := by decide +kernel
theorem dX6_add_11 : decode cX6_add 11 = .ok (.aload_n 0, 1) := by decide +kernel
theorem dX6_add_12 : decode cX6_add 12 = .ok (.getfield 9, 3) := by decide +kernel
theorem dX6_add_15 : decode cX6_add 15 = .ok (.aload_n 0, 1) := by decide +kernel
theorem dX6_add_16 : decode cX6_add 16 = .ok (.getfield 18, 3) := by decide +kernel
theorem dX6_add_19 : decode cX6_add 19 = .ok (.iload_n 1, 1) := by decide +kernel
theorem dX6_add_20 : decode cX6_add 20 = .ok (.iastore, 1) := by decide +kernel
theorem dX6_add_21 : decode cX6_add 21 = .ok (.aload_n 0, 1) := by decide +kernel
theorem dX6_add_22 : decode cX6_add 22 = .ok (.getfield 15, 3) := by decide +kernel
theorem dX6_add_25 : decode cX6_add 25 = .ok (.aload_n 0, 1) := by decide +kernel
theorem dX6_add_26 : decode cX6_add 26 = .ok (.getfield 18, 3) := by decide +kernel
theorem dX6_add_29 : decode cX6_add 29 = .ok (.iload_n 2, 1) := by decide +kernel
theorem dX6_add_30 : decode cX6_add 30 = .ok (.iastore, 1) := by decide +kernel
theorem dX6_add_31 : decode cX6_add 31 = .ok (.aload_n 0, 1) := by decide +kernel
theorem dX6_add_32 : decode cX6_add 32 = .ok (.dup, 1) := by decide +kernel
theorem dX6_add_33 : decode cX6_add 33 = .ok (.getfield 18, 3) := by decide +kernel
theorem dX6_add_36 : decode cX6_add 36 = .ok (.iconst 1, 1) := by decide +kernel
theorem dX6_add_37 : decode cX6_add 37 = .ok (.iadd, 1) := by decide +kernel
theorem dX6_add_38 : decode cX6_add 38 = .ok (.putfield 18, 3) := by decide +kernel
theorem dX6_add_41 : decode cX6_add 41 = .ok (.iconst 1, 1) := by decide +kernel
theorem dX6_add_42 : decode cX6_add 42 = .ok (.ireturn, 1) := by decide +kernel
theorem dX6_empty_0 : decode cX6_empty 0 = .ok (.aload_n 0, 1) := by decide +kernel
theorem dX6_empty_1 : decode cX6_empty 1 = .ok (.getfield 18, 3) := by decide +kernel
theorem dX6_empty_4 : decode cX6_empty 4 = .ok (.istore_n 1, 1) := by decide +kernel
theorem dX6_empty_5 : decode cX6_empty 5 = .ok (.aload_n 0, 1) := by decide +kernel
theorem dX6_empty_6 : decode cX6_empty 6 = .ok (.iconst 0, 1) := by decide +kernel
theorem dX6_empty_7 : decode cX6_empty 7 = .ok (.putfield 18, 3) := by decide +kernel
theorem dX6_empty_10 : decode cX6_empty 10 = .ok (.iload_n 1, 1) := by decide +kernel
theorem dX6_empty_11 : decode cX6_empty 11 = .ok (.ireturn, 1) := by decide +kernel
theorem dX7_init_0 : decode cX7_init 0 = .ok (.aload_n 0, 1) := by decide +kernel
theorem dX7_init_1 : decode cX7_init 1 = .ok (.invokespecial 3, 3) := by decide +kernel
theorem dX7_init_4 : decode cX7_init 4 = .ok (.aload_n 0, 1) := by decide +kernel
theorem dX7_init_5 : decode cX7_init 5 = .ok (.bipush 12, 2) := by decide +kernel
theorem dX7_init_7 : decode cX7_init 7 = .ok (.newarray .int, 2) := by decide +kernel
theorem dX7_init_9 : decode cX7_init 9 = .ok (.putfield 9, 3) := by decide +kernel
theorem dX7_init_12 : decode cX7_init 12 = .ok (.aload_n 0, 1) := by decide +kernel
theorem dX7_init_13 : decode cX7_init 13 = .ok (.bipush 12, 2) := by decide +kernel
theorem dX7_init_15 : decode cX7_init 15 = .ok (.newarray .int, 2) := by decide +kernel
theorem dX7_init_17 : decode cX7_init 17 = .ok (.putfield 15, 3) := by decide +kernel
theorem dX7_init_20 : decode cX7_init 20 = .ok (.aload_n 0, 1) := by decide +kernel
theorem dX7_init_21 : decode cX7_init 21 = .ok (.iconst 0, 1) := by decide +kernel
theorem dX7_init_22 : decode cX7_init 22 = .ok (.putfield 18, 3) := by decide +kernel
theorem dX7_init_25 : decode cX7_init 25 = .ok (.return_, 1) := by decide +kernel
theorem dX7_add_0 : decode cX7_add 0 = .ok (.aload_n 0, 1) := by decide +kernel
theorem dX7_add_1 : decode cX7_add 1 = .ok (.getfield 18, 3) := by decide +kernel
theorem dX7_add_4 : decode cX7_add 4 = .ok (.iconst 2, 1) := by decide +kernel
theorem dX7_add_5 : decode cX7_add 5 = .ok (.if_icmp .lt 5, 3) := by decide +kernel
theorem dX7_add_8 : decode cX7_add 8 = .ok (.iconst 0, 1) := by decide +kernel
theorem dX7_add_9 : decode cX7_add 9 = .ok (.ireturn, 1) := by decide +kernel
theorem dX7_add_10 : decode cX7_add 10 = .ok (.aload_n 1, 1) := by decide +kernel
theorem dX7_add_11 : decode cX7_add 11 = .ok (.getfield 22, 3) := by decide +kernel
theorem dX7_add_14 : decode cX7_add 14 = .ok (.iconst 0, 1) := by decide +kernel
theorem dX7_add_15 : decode cX7_add 15 = .ok (.aload_n 0, 1) := by decide +kernel
theorem dX7_add_16 : decode cX7_add 16 = .ok (.getfield 9, 3) := by decide +kernel
theorem dX7_add_19 : decode cX7_add 19 = .ok (.aload_n 0, 1) := by decide +kernel
theorem dX7_add_20 : decode cX7_add 20 = .ok (.getfield 18, 3) := by decide +kernel
theorem dX7_add_23 : decode cX7_add 23 = .ok (.bipush 6, 2) := by decide +kernel
theorem dX7_add_25 : decode cX7_add 25 = .ok (.imul, 1) := by decide +kernel
theorem dX7_add_26 : decode cX7_add 26 = .ok (.bipush 6, 2) := by decide +kernel
theorem dX7_add_28 : decode cX7_add 28 = .ok (.invokestatic 25, 3) := by decide +kernel
theorem dX7_add_31 : decode cX7_add 31 = .ok (.aload_n 1, 1) := by decide +kernel
theorem dX7_add_32 : decode cX7_add 32 = .ok (.getfield 31, 3) := by decide +kernel
theorem dX7_add_35 : decode cX7_add 35 = .ok (.iconst 0, 1) := by decide +kernel
theorem dX7_add_36 : decode cX7_add 36 = .ok (.aload_n 0, 1) := by decide +kernel
theorem dX7_add_37 : decode cX7_add 37 = .ok (.getfield 15, 3) := by decide +kernel
theorem dX7_add_40 : decode cX7_add 40 = .ok (.aload_n 0, 1) := by decide +kernel
theorem dX7_add_41 : decode cX7_add 41 = .ok (.getfield 18, 3) := by decide +kernel
theorem dX7_add_44 : decode cX7_add 44 = .ok (.bipush 6, 2) := by decide +kernel
theorem dX7_add_46 : decode cX7_add 46 = .ok (.imul, 1) := by decide +kernel
theorem dX7_add_47 : decode cX7_add 47 = .ok (.bipush 6, 2) := by decide +kernel
theorem dX7_add_49 : decode cX7_add 49 = .ok (.invokestatic 25, 3) := by decide +kernel
theorem dX7_add_52 : decode cX7_add 52 = .ok (.aload_n 0, 1) := by decide +kernel
theorem dX7_add_53 : decode cX7_add 53 = .ok (.dup, 1) := by decide +kernel
theorem dX7_add_54 : decode cX7_add 54 = .ok (.getfield 18, 3) := by decide +kernel
theorem dX7_add_57 : decode cX7_add 57 = .ok (.iconst 1, 1) := by decide +kernel
theorem dX7_add_58 : decode cX7_add 58 = .ok (.iadd, 1) := by decide +kernel
theorem dX7_add_59 : decode cX7_add 59 = .ok (.putfield 18, 3) := by decide +kernel
theorem dX7_add_62 : decode cX7_add 62 = .ok (.iconst 1, 1) := by decide +kernel
theorem dX7_add_63 : decode cX7_add 63 = .ok (.ireturn, 1) := by decide +kernel
theorem dX7_takeLast_0 : decode cX7_takeLast 0 = .ok (.aload_n 0, 1) := by decide +kernel
theorem dX7_takeLast_1 : decode cX7_takeLast 1 = .ok (.getfield 18, 3) := by decide +kernel
theorem dX7_takeLast_4 : decode cX7_takeLast 4 = .ok (.ifCond .gt 5, 3) := by decide +kernel
theorem dX7_takeLast_7 : decode cX7_takeLast 7 = .ok (.iconst 0, 1) := by decide +kernel
theorem dX7_takeLast_8 : decode cX7_takeLast 8 = .ok (.ireturn, 1) := by decide +kernel
theorem dX7_takeLast_9 : decode cX7_takeLast 9 = .ok (.aload_n 0, 1) := by decide +kernel
theorem dX7_takeLast_10 : decode cX7_takeLast 10 = .ok (.dup, 1) := by decide +kernel
theorem dX7_takeLast_11 : decode cX7_takeLast 11 = .ok (.getfield 18, 3) := by decide +kernel
theorem dX7_takeLast_14 : decode cX7_takeLast 14 = .ok (.iconst 1, 1) := by decide +kernel
theorem dX7_takeLast_15 : decode cX7_takeLast 15 = .ok (.isub, 1) := by decide +kernel
theorem dX7_takeLast_16 : decode cX7_takeLast 16 = .ok (.putfield 18, 3) := by decide +kernel
theorem dX7_takeLast_19 : decode cX7_takeLast 19 = .ok (.aload_n 0, 1) := by decide +kernel
theorem dX7_takeLast_20 : decode cX7_takeLast 20 = .ok (.getfield 9, 3) := by decide +kernel
theorem dX7_takeLast_23 : decode cX7_takeLast 23 = .ok (.aload_n 0, 1) := by decide +kernel
theorem dX7_takeLast_24 : decode cX7_takeLast 24 = .ok (.getfield 18, 3) := by decide +kernel
theorem dX7_takeLast_27 : decode cX7_takeLast 27 = .ok (.bipush 6, 2) := by decide +kernel
theorem dX7_takeLast_29 : decode cX7_takeLast 29 = .ok (.imul, 1) := by decide +kernel
theorem dX7_takeLast_30 : decode cX7_takeLast 30 = .ok (.aload_n 1, 1) := by decide +kernel
theorem dX7_takeLast_31 : decode cX7_takeLast 31 = .ok (.getfield 22, 3) := by decide +kernel
theorem dX7_takeLast_34 : decode cX7_takeLast 34 = .ok (.iconst 0, 1) := by decide +kernel
theorem dX7_takeLast_35 : decode cX7_takeLast 35 = .ok (.bipush 6, 2) := by decide +kernel
theorem dX7_takeLast_37 : decode cX7_takeLast 37 = .ok (.invokestatic 25, 3) := by decide +kernel
theorem dX7_takeLast_40 : decode cX7_takeLast 40 = .ok (.aload_n 0, 1) := by decide +kernel
theorem dX7_takeLast_41 : decode cX7_takeLast 41 = .ok (.getfield 15, 3) := by decide +kernel
theorem dX7_takeLast_44 : decode cX7_takeLast 44 = .ok (.aload_n 0, 1) := by decide +kernel
theorem dX7_takeLast_45 : decode cX7_takeLast 45 = .ok (.getfield 18, 3) := by decide +kernel
theorem dX7_takeLast_48 : decode cX7_takeLast 48 = .ok (.bipush 6, 2) := by decide +kernel
theorem dX7_takeLast_50 : decode cX7_takeLast 50 = .ok (.imul, 1) := by decide +kernel
theorem dX7_takeLast_51 : decode cX7_takeLast 51 = .ok (.aload_n 1, 1) := by decide +kernel
theorem dX7_takeLast_52 : decode cX7_takeLast 52 = .ok (.getfield 31, 3) := by decide +kernel
theorem dX7_takeLast_55 : decode cX7_takeLast 55 = .ok (.iconst 0, 1) := by decide +kernel
theorem dX7_takeLast_56 : decode cX7_takeLast 56 = .ok (.bipush 6, 2) := by decide +kernel
theorem dX7_takeLast_58 : decode cX7_takeLast 58 = .ok (.invokestatic 25, 3) := by decide +kernel
theorem dX7_takeLast_61 : decode cX7_takeLast 61 = .ok (.iconst 1, 1) := by decide +kernel
theorem dX7_takeLast_62 : decode cX7_takeLast 62 = .ok (.ireturn, 1) := by decide +kernel
theorem dX8_init_0 : decode cX8_init 0 = .ok (.aload_n 0, 1) := by decide +kernel
theorem dX8_init_1 : decode cX8_init 1 = .ok (.invokespecial 3, 3) := by decide +kernel
theorem dX8_init_4 : decode cX8_init 4 = .ok (.aload_n 0, 1) := by decide +kernel
theorem dX8_init_5 : decode cX8_init 5 = .ok (.sipush 200, 3) := by decide +kernel
theorem dX8_init_8 : decode cX8_init 8 = .ok (.newarray .int, 2) := by decide +kernel
theorem dX8_init_10 : decode cX8_init 10 = .ok (.putfield 9, 3) := by decide +kernel
theorem dX8_init_13 : decode cX8_init 13 = .ok (.aload_n 0, 1) := by decide +kernel
theorem dX8_init_14 : decode cX8_init 14 = .ok (.iconst 0, 1) := by decide +kernel
theorem dX8_init_15 : decode cX8_init 15 = .ok (.putfield 15, 3) := by decide +kernel
theorem dX8_init_18 : decode cX8_init 18 = .ok (.return_, 1) := by decide +kernel
theorem dX8_add_0 : decode cX8_add 0 = .ok (.aload_n 0, 1) := by decide +kernel
theorem dX8_add_1 : decode cX8_add 1 = .ok (.getfield 15, 3) := by decide +kernel
theorem dX8_add_4 : decode cX8_add 4 = .ok (.sipush 200, 3) := by decide +kernel
theorem dX8_add_7 : decode cX8_add 7 = .ok (.if_icmp .lt 5, 3) := by decide +kernel
theorem dX8_add_10 : decode cX8_add 10 = .ok (.iconst 0, 1) := by decide +kernel
theorem dX8_add_11 : decode cX8_add 11 = .ok (.ireturn, 1) := by decide +kernel
theorem dX8_add_12 : decode cX8_add 12 = .ok (.aload_n 0, 1) := by decide +kernel
theorem dX8_add_13 : decode cX8_add 13 = .ok (.getfield 9, 3) := by decide +kernel
theorem dX8_add_16 : decode cX8_add 16 = .ok (.aload_n 0, 1) := by decide +kernel
theorem dX8_add_17 : decode cX8_add 17 = .ok (.getfield 15, 3) := by decide +kernel
theorem dX8_add_20 : decode cX8_add 20 = .ok (.iload_n 1, 1) := by decide +kernel
theorem dX8_add_21 : decode cX8_add 21 = .ok (.iastore, 1) := by decide +kernel
theorem dX8_add_22 : decode cX8_add 22 = .ok (.aload_n 0, 1) := by decide +kernel
theorem dX8_add_23 : decode cX8_add 23 = .ok (.dup, 1) := by decide +kernel
theorem dX8_add_24 : decode cX8_add 24 = .ok (.getfield 15, 3) := by decide +kernel
theorem dX8_add_27 : decode cX8_add 27 = .ok (.iconst 1, 1) := by decide +kernel
theorem dX8_add_28 : decode cX8_add 28 = .ok (.iadd, 1) := by decide +kernel
theorem dX8_add_29 : decode cX8_add 29 = .ok (.putfield 15, 3) := by decide +kernel
theorem dX8_add_32 : decode cX8_add 32 = .ok (.iconst 1, 1) := by decide +kernel
theorem dX8_add_33 : decode cX8_add 33 = .ok (.ireturn, 1) := by decide +kernel
theorem dX8_empty_0 : decode cX8_empty 0 = .ok (.aload_n 0, 1) := by decide +kernel
theorem dX8_empty_1 : decode cX8_empty 1 = .ok (.getfield 15, 3) := by decide +kernel
theorem dX8_empty_4 : decode cX8_empty 4 = .ok (.istore_n 1, 1) := by decide +kernel
theorem dX8_empty_5 : decode cX8_empty 5 = .ok (.aload_n 0, 1) := by decide +kernel
theorem dX8_empty_6 : decode cX8_empty 6 = .ok (.iconst 0, 1) := by decide +kernel
theorem dX8_empty_7 : decode cX8_empty 7 = .ok (.putfield 15, 3) := by decide +kernel
theorem dX8_empty_10 : decode cX8_empty 10 = .ok (.iload_n 1, 1) := by decide +kernel
theorem dX8_empty_11 : decode cX8_empty 11 = .ok (.ireturn, 1) := by decide +kernel
theorem dX8_letterAt_0 : decode cX8_letterAt 0 = .ok (.iload_n 1, 1) := by decide +kernel
theorem dX8_letterAt_1 : decode cX8_letterAt 1 = .ok (.ifCond .lt 20, 3) := by decide +kernel
theorem dX8_letterAt_4 : decode cX8_letterAt 4 = .ok (.iload_n 1, 1) := by decide +kernel
theorem dX8_letterAt_5 : decode cX8_letterAt 5 = .ok (.aload_n 0, 1) := by decide +kernel
theorem dX8_letterAt_6 : decode cX8_letterAt 6 = .ok (.getfield 15, 3) := by decide +kernel
theorem dX8_letterAt_9 : decode cX8_letterAt 9 = .ok (.if_icmp .ge 12, 3) := by decide +kernel
theorem dX8_letterAt_12 : decode cX8_letterAt 12 = .ok (.aload_n 0, 1) := by decide +kernel
theorem dX8_letterAt_13 : decode cX8_letterAt 13 = .ok (.getfield 9, 3) := by decide +kernel
theorem dX8_letterAt_16 : decode cX8_letterAt 16 = .ok (.iload_n 1, 1) := by decide +kernel
theorem dX8_letterAt_17 : decode cX8_letterAt 17 = .ok (.iaload, 1) := by decide +kernel
theorem dX8_letterAt_18 : decode cX8_letterAt 18 = .ok (.goto 5, 3) := by decide +kernel
theorem dX8_letterAt_21 : decode cX8_letterAt 21 = .ok (.bipush (-4), 2) := by decide +kernel
theorem dX8_letterAt_23 : decode cX8_letterAt 23 = .ok (.ireturn, 1) := by decide +kernel
end
section
theorem dX9_init_0 : decode cX9_init 0 = .ok (.aload_n 0, 1) := by decide +kernel
theorem dX9_init_1 : decode cX9_init 1 = .ok (.invokespecial 1, 3) := by decide +kernel
theorem dX9_init_4 : decode cX9_init 4 = .ok (.aload_n 0, 1) := by decide +kernel
theorem dX9_init_5 : decode cX9_init 5 = .ok (.new 7, 3) := by decide +kernel
theorem dX9_init_8 : decode cX9_init 8 = .ok (.dup, 1) := by decide +kernel
theorem dX9_init_9 : decode cX9_init 9 = .ok (.invokespecial 9, 3) := by decide +kernel
theorem dX9_init_12 : decode cX9_init 12 = .ok (.putfield 10, 3) := by decide +kernel
theorem dX9_init_15 : decode cX9_init 15 = .ok (.aload_n 0, 1) := by decide +kernel
theorem dX9_init_16 : decode cX9_init 16 = .ok (.new 16, 3) := by decide +kernel
theorem dX9_init_19 : decode cX9_init 19 = .ok (.dup, 1) := by decide +kernel
theorem dX9_init_20 : decode cX9_init 20 = .ok (.invokespecial 18, 3) := by decide +kernel
theorem dX9_init_23 : decode cX9_init 23 = .ok (.putfield 19, 3) := by decide +kernel
theorem dX9_init_26 : decode cX9_init 26 = .ok (.aload_n 0, 1) := by decide +kernel
theorem dX9_init_27 : decode cX9_init 27 = .ok (.new 23, 3) := by decide +kernel
theorem dX9_init_30 : decode cX9_init 30 = .ok (.dup, 1) := by decide +kernel
theorem dX9_init_31 : decode cX9_init 31 = .ok (.aload_n 0, 1) := by decide +kernel
theorem dX9_init_32 : decode cX9_init 32 = .ok (.getfield 10, 3) := by decide +kernel
theorem dX9_init_35 : decode cX9_init 35 = .ok (.aload_n 0, 1) := by decide +kernel
theorem dX9_init_36 : decode cX9_init 36 = .ok (.getfield 19, 3) := by decide +kernel
theorem dX9_init_39 : decode cX9_init 39 = .ok (.invokespecial 25, 3) := by decide +kernel
theorem dX9_init_42 : decode cX9_init 42 = .ok (.putfield 28, 3) := by decide +kernel
theorem dX9_init_45 : decode cX9_init 45 = .ok (.aload_n 0, 1) := by decide +kernel
theorem dX9_init_46 : decode cX9_init 46 = .ok (.new 16, 3) := by decide +kernel
theorem dX9_init_49 : decode cX9_init 49 = .ok (.dup, 1) := by decide +kernel
theorem dX9_init_50 : decode cX9_init 50 = .ok (.invokespecial 18, 3) := by decide +kernel
theorem dX9_init_53 : decode cX9_init 53 = .ok (.putfield 32, 3) := by decide +kernel
theorem dX9_init_56 : decode cX9_init 56 = .ok (.aload_n 0, 1) := by decide +kernel
theorem dX9_init_57 : decode cX9_init 57 = .ok (.new 35, 3) := by decide +kernel
theorem dX9_init_60 : decode cX9_init 60 = .ok (.dup, 1) := by decide +kernel
theorem dX9_init_61 : decode cX9_init 61 = .ok (.invokespecial 37, 3) := by decide +kernel
theorem dX9_init_64 : decode cX9_init 64 = .ok (.putfield 38, 3) := by decide +kernel
theorem dX9_init_67 : decode cX9_init 67 = .ok (.aload_n 0, 1) := by decide +kernel
theorem dX9_init_68 : decode cX9_init 68 = .ok (.new 35, 3) := by decide +kernel
theorem dX9_init_71 : decode cX9_init 71 = .ok (.dup, 1) := by decide +kernel
theorem dX9_init_72 : decode cX9_init 72 = .ok (.invokespecial 37, 3) := by decide +kernel
theorem dX9_init_75 : decode cX9_init 75 = .ok (.putfield 42, 3) := by decide +kernel
theorem dX9_init_78 : decode cX9_init 78 = .ok (.aload_n 0, 1) := by decide +kernel
theorem dX9_init_79 : decode cX9_init 79 = .ok (.new 45, 3) := by decide +kernel
theorem dX9_init_82 : decode cX9_init 82 = .ok (.dup, 1) := by decide +kernel
theorem dX9_init_83 : decode cX9_init 83 = .ok (.aload_n 0, 1) := by decide +kernel
theorem dX9_init_84 : decode cX9_init 84 = .ok (.getfield 32, 3) := by decide +kernel
theorem dX9_init_87 : decode cX9_init 87 = .ok (.invokespecial 47, 3) := by decide +kernel
theorem dX9_init_90 : decode cX9_init 90 = .ok (.putfield 50, 3) := by decide +kernel
theorem dX9_init_93 : decode cX9_init 93 = .ok (.aload_n 0, 1) := by decide +kernel
theorem dX9_init_94 : decode cX9_init 94 = .ok (.new 54, 3) := by decide +kernel
theorem dX9_init_97 : decode cX9_init 97 = .ok (.dup, 1) := by decide +kernel
theorem dX9_init_98 : decode cX9_init 98 = .ok (.aload_n 0, 1) := by decide +kernel
theorem dX9_init_99 : decode cX9_init 99 = .ok (.getfield 32, 3) := by decide +kernel
theorem dX9_init_102 : decode cX9_init 102 = .ok (.aload_n 0, 1) := by decide +kernel
theorem dX9_init_103 : decode cX9_init 103 = .ok (.getfield 50, 3) := by decide +kernel
theorem dX9_init_106 : decode cX9_init 106 = .ok (.invokespecial 56, 3) := by decide +kernel
theorem dX9_init_109 : decode cX9_init 109 = .ok (.putfield 59, 3) := by decide +kernel
theorem dX9_init_112 : decode cX9_init 112 = .ok (.aload_n 0, 1) := by decide +kernel
theorem dX9_init_113 : decode cX9_init 113 = .ok (.new 63, 3) := by decide +kernel
theorem dX9_init_116 : decode cX9_init 116 = .ok (.dup, 1) := by decide +kernel
theorem dX9_init_117 : decode cX9_init 117 = .ok (.invokespecial 65, 3) := by decide +kernel
theorem dX9_init_120 : decode cX9_init 120 = .ok (.putfield 66, 3) := by decide +kernel
theorem dX9_init_123 : decode cX9_init 123 = .ok (.aload_n 0, 1) := by decide +kernel
theorem dX9_init_124 : decode cX9_init 124 = .ok (.new 70, 3) := by decide +kernel
theorem dX9_init_127 : decode cX9_init 127 = .ok (.dup, 1) := by decide +kernel
theorem dX9_init_128 : decode cX9_init 128 = .ok (.invokespecial 72, 3) := by decide +kernel
theorem dX9_init_131 : decode cX9_init 131 = .ok (.putfield 73, 3) := by decide +kernel
theorem dX9_init_134 : decode cX9_init 134 = .ok (.aload_n 0, 1) := by decide +kernel
theorem dX9_init_135 : decode cX9_init 135 = .ok (.new 77, 3) := by decide +kernel
theorem dX9_init_138 : decode cX9_init 138 = .ok (.dup, 1) := by decide +kernel
theorem dX9_init_139 : decode cX9_init 139 = .ok (.invokespecial 79, 3) := by decide +kernel
theorem dX9_init_142 : decode cX9_init 142 = .ok (.putfield 80, 3) := by decide +kernel
theorem dX9_init_145 : decode cX9_init 145 = .ok (.iconst 0, 1) := by decide +kernel
theorem dX9_init_146 : decode cX9_init 146 = .ok (.istore_n 1, 1) := by decide +kernel
theorem dX9_init_147 : decode cX9_init 147 = .ok (.iload_n 1, 1) := by decide +kernel
theorem dX9_init_148 : decode cX9_init 148 = .ok (.ldc 84, 2) := by decide +kernel
theorem dX9_init_150 : decode cX9_init 150 = .ok (.invokevirtual 86, 3) := by decide +kernel
theorem dX9_init_153 : decode cX9_init 153 = .ok (.if_icmp .ge 23, 3) := by decide +kernel
theorem dX9_init_156 : decode cX9_init 156 = .ok (.aload_n 0, 1) := by decide +kernel
theorem dX9_init_157 : decode cX9_init 157 = .ok (.getfield 10, 3) := by decide +kernel
theorem dX9_init_160 : decode cX9_init 160 = .ok (.ldc 84, 2) := by decide +kernel
theorem dX9_init_162 : decode cX9_init 162 = .ok (.iload_n 1, 1) := by decide +kernel
theorem dX9_init_163 : decode cX9_init 163 = .ok (.invokevirtual 92, 3) := by decide +kernel
theorem dX9_init_166 : decode cX9_init 166 = .ok (.invokevirtual 96, 3) := by decide +kernel
theorem dX9_init_169 : decode cX9_init 169 = .ok (.pop, 1) := by decide +kernel
theorem dX9_init_170 : decode cX9_init 170 = .ok (.iinc 1 1, 3) := by decide +kernel
theorem dX9_init_173 : decode cX9_init 173 = .ok (.goto (-26), 3) := by decide +kernel
theorem dX9_init_176 : decode cX9_init 176 = .ok (.aload_n 0, 1) := by decide +kernel
theorem dX9_init_177 : decode cX9_init 177 = .ok (.invokevirtual 100, 3) := by decide +kernel
theorem dX9_init_180 : decode cX9_init 180 = .ok (.pop, 1) := by decide +kernel
theorem dX9_init_181 : decode cX9_init 181 = .ok (.aload_n 0, 1) := by decide +kernel
theorem dX9_init_182 : decode cX9_init 182 = .ok (.getfield 10, 3) := by decide +kernel
theorem dX9_init_185 : decode cX9_init 185 = .ok (.invokevirtual 104, 3) := by decide +kernel
theorem dX9_init_188 : decode cX9_init 188 = .ok (.pop, 1) := by decide +kernel
theorem dX9_init_189 : decode cX9_init 189 = .ok (.return_, 1) := by decide +kernel
theorem dX9_write_0 : decode cX9_write 0 = .ok (.iload_n 1, 1) := by decide +kernel
theorem dX9_write_1 : decode cX9_write 1 = .ok (.bipush 32, 2) := by decide +kernel
theorem dX9_write_3 : decode cX9_write 3 = .ok (.bipush 126, 2) := by decide +kernel
theorem dX9_write_5 : decode cX9_write 5 = .ok (.invokestatic 107, 3) := by decide +kernel
theorem dX9_write_8 : decode cX9_write 8 = .ok (.ifCond .ne 5, 3) := by decide +kernel
theorem dX9_write_11 : decode cX9_write 11 = .ok (.iconst (-1), 1) := by decide +kernel
theorem dX9_write_12 : decode cX9_write 12 = .ok (.ireturn, 1) := by decide +kernel
theorem dX9_write_13 : decode cX9_write 13 = .ok (.aload_n 0, 1) := by decide +kernel
theorem dX9_write_14 : decode cX9_write 14 = .ok (.getfield 10, 3) := by decide +kernel
theorem dX9_write_17 : decode cX9_write 17 = .ok (.iload_n 1, 1) := by decide +kernel
theorem dX9_write_18 : decode cX9_write 18 = .ok (.invokevirtual 96, 3) := by decide +kernel
theorem dX9_write_21 : decode cX9_write 21 = .ok (.ifCond .eq 13, 3) := by decide +kernel
theorem dX9_write_24 : decode cX9_write 24 = .ok (.aload_n 0, 1) := by decide +kernel
theorem dX9_write_25 : decode cX9_write 25 = .ok (.getfield 10, 3) := by decide +kernel
theorem dX9_write_28 : decode cX9_write 28 = .ok (.getfield 111, 3) := by decide +kernel
theorem dX9_write_31 : decode cX9_write 31 = .ok (.goto 5, 3) := by decide +kernel
theorem dX9_write_34 : decode cX9_write 34 = .ok (.bipush (-3), 2) := by decide +kernel
theorem dX9_write_36 : decode cX9_write 36 = .ok (.ireturn, 1) := by decide +kernel
theorem dX9_wipe_0 : decode cX9_wipe 0 = .ok (.aload_n 0, 1) := by decide +kernel
theorem dX9_wipe_1 : decode cX9_wipe 1 = .ok (.getfield 10, 3) := by decide +kernel
theorem dX9_wipe_4 : decode cX9_wipe 4 = .ok (.invokevirtual 104, 3) := by decide +kernel
theorem dX9_wipe_7 : decode cX9_wipe 7 = .ok (.ireturn, 1) := by decide +kernel
theorem dX9_fault_0 : decode cX9_fault 0 = .ok (.aload_n 0, 1) := by decide +kernel
theorem dX9_fault_1 : decode cX9_fault 1 = .ok (.getfield 28, 3) := by decide +kernel
theorem dX9_fault_4 : decode cX9_fault 4 = .ok (.invokevirtual 114, 3) := by decide +kernel
theorem dX9_fault_7 : decode cX9_fault 7 = .ok (.ireturn, 1) := by decide +kernel
theorem dX9_lay_0 : decode cX9_lay 0 = .ok (.aload_n 0, 1) := by decide +kernel
theorem dX9_lay_1 : decode cX9_lay 1 = .ok (.invokevirtual 100, 3) := by decide +kernel
theorem dX9_lay_4 : decode cX9_lay 4 = .ok (.ifCond .eq 13, 3) := by decide +kernel
theorem dX9_lay_7 : decode cX9_lay 7 = .ok (.aload_n 0, 1) := by decide +kernel
theorem dX9_lay_8 : decode cX9_lay 8 = .ok (.getfield 32, 3) := by decide +kernel
theorem dX9_lay_11 : decode cX9_lay 11 = .ok (.getfield 117, 3) := by decide +kernel
theorem dX9_lay_14 : decode cX9_lay 14 = .ok (.goto 5, 3) := by decide +kernel
theorem dX9_lay_17 : decode cX9_lay 17 = .ok (.bipush (-2), 2) := by decide +kernel
theorem dX9_lay_19 : decode cX9_lay 19 = .ok (.ireturn, 1) := by decide +kernel
theorem dX9_boat_0 : decode cX9_boat 0 = .ok (.aload_n 0, 1) := by decide +kernel
theorem dX9_boat_1 : decode cX9_boat 1 = .ok (.iload_n 1, 1) := by decide +kernel
theorem dX9_boat_2 : decode cX9_boat 2 = .ok (.invokevirtual 120, 3) := by decide +kernel
theorem dX9_boat_5 : decode cX9_boat 5 = .ok (.ifCond .ne 5, 3) := by decide +kernel
theorem dX9_boat_8 : decode cX9_boat 8 = .ok (.iconst (-1), 1) := by decide +kernel
theorem dX9_boat_9 : decode cX9_boat 9 = .ok (.ireturn, 1) := by decide +kernel
theorem dX9_boat_10 : decode cX9_boat 10 = .ok (.iload_n 2, 1) := by decide +kernel
theorem dX9_boat_11 : decode cX9_boat 11 = .ok (.tableswitch 97 0 5 #[37, 47, 57, 67, 77, 87], 37) := by decide +kernel
theorem dX9_boat_48 : decode cX9_boat 48 = .ok (.aload_n 0, 1) := by decide +kernel
theorem dX9_boat_49 : decode cX9_boat 49 = .ok (.getfield 32, 3) := by decide +kernel
theorem dX9_boat_52 : decode cX9_boat 52 = .ok (.getfield 123, 3) := by decide +kernel
theorem dX9_boat_55 : decode cX9_boat 55 = .ok (.iload_n 1, 1) := by decide +kernel
theorem dX9_boat_56 : decode cX9_boat 56 = .ok (.iaload, 1) := by decide +kernel
theorem dX9_boat_57 : decode cX9_boat 57 = .ok (.ireturn, 1) := by decide +kernel
theorem dX9_boat_58 : decode cX9_boat 58 = .ok (.aload_n 0, 1) := by decide +kernel
theorem dX9_boat_59 : decode cX9_boat 59 = .ok (.getfield 32, 3) := by decide +kernel
theorem dX9_boat_62 : decode cX9_boat 62 = .ok (.getfield 127, 3) := by decide +kernel
theorem dX9_boat_65 : decode cX9_boat 65 = .ok (.iload_n 1, 1) := by decide +kernel
theorem dX9_boat_66 : decode cX9_boat 66 = .ok (.iaload, 1) := by decide +kernel
theorem dX9_boat_67 : decode cX9_boat 67 = .ok (.ireturn, 1) := by decide +kernel
theorem dX9_boat_68 : decode cX9_boat 68 = .ok (.aload_n 0, 1) := by decide +kernel
theorem dX9_boat_69 : decode cX9_boat 69 = .ok (.getfield 32, 3) := by decide +kernel
theorem dX9_boat_72 : decode cX9_boat 72 = .ok (.getfield 130, 3) := by decide +kernel
theorem dX9_boat_75 : decode cX9_boat 75 = .ok (.iload_n 1, 1) := by decide +kernel
theorem dX9_boat_76 : decode cX9_boat 76 = .ok (.iaload, 1) := by decide +kernel
theorem dX9_boat_77 : decode cX9_boat 77 = .ok (.ireturn, 1) := by decide +kernel
theorem dX9_boat_78 : decode cX9_boat 78 = .ok (.aload_n 0, 1) := by decide +kernel
theorem dX9_boat_79 : decode cX9_boat 79 = .ok (.getfield 38, 3) := by decide +kernel
theorem dX9_boat_82 : decode cX9_boat 82 = .ok (.getfield 133, 3) := by decide +kernel
theorem dX9_boat_85 : decode cX9_boat 85 = .ok (.iload_n 1, 1) := by decide +kernel
theorem dX9_boat_86 : decode cX9_boat 86 = .ok (.iaload, 1) := by decide +kernel
theorem dX9_boat_87 : decode cX9_boat 87 = .ok (.ireturn, 1) := by decide +kernel
theorem dX9_boat_88 : decode cX9_boat 88 = .ok (.aload_n 0, 1) := by decide +kernel
theorem dX9_boat_89 : decode cX9_boat 89 = .ok (.getfield 32, 3) := by decide +kernel
theorem dX9_boat_92 : decode cX9_boat 92 = .ok (.getfield 136, 3) := by decide +kernel
theorem dX9_boat_95 : decode cX9_boat 95 = .ok (.iload_n 1, 1) := by decide +kernel
theorem dX9_boat_96 : decode cX9_boat 96 = .ok (.iaload, 1) := by decide +kernel
theorem dX9_boat_97 : decode cX9_boat 97 = .ok (.ireturn, 1) := by decide +kernel
theorem dX9_boat_98 : decode cX9_boat 98 = .ok (.aload_n 0, 1) := by decide +kernel
theorem dX9_boat_99 : decode cX9_boat 99 = .ok (.getfield 38, 3) := by decide +kernel
theorem dX9_boat_102 : decode cX9_boat 102 = .ok (.getfield 139, 3) := by decide +kernel
theorem dX9_boat_105 : decode cX9_boat 105 = .ok (.iload_n 1, 1) := by decide +kernel
theorem dX9_boat_106 : decode cX9_boat 106 = .ok (.iaload, 1) := by decide +kernel
theorem dX9_boat_107 : decode cX9_boat 107 = .ok (.ireturn, 1) := by decide +kernel
theorem dX9_boat_108 : decode cX9_boat 108 = .ok (.iconst (-1), 1) := by decide +kernel
theorem dX9_boat_109 : decode cX9_boat 109 = .ok (.ireturn, 1) := by decide +kernel
theorem dX9_where_0 : decode cX9_where 0 = .ok (.iload_n 1, 1) := by decide +kernel
theorem dX9_where_1 : decode cX9_where 1 = .ok (.invokestatic 142, 3) := by decide +kernel
theorem dX9_where_4 : decode cX9_where 4 = .ok (.ifCond .eq 21, 3) := by decide +kernel
theorem dX9_where_7 : decode cX9_where 7 = .ok (.aload_n 0, 1) := by decide +kernel
theorem dX9_where_8 : decode cX9_where 8 = .ok (.iload_n 2, 1) := by decide +kernel
theorem dX9_where_9 : decode cX9_where 9 = .ok (.invokevirtual 120, 3) := by decide +kernel
theorem dX9_where_12 : decode cX9_where 12 = .ok (.ifCond .eq 13, 3) := by decide +kernel
theorem dX9_where_15 : decode cX9_where 15 = .ok (.iload_n 3, 1) := by decide +kernel
theorem dX9_where_16 : decode cX9_where 16 = .ok (.iconst 0, 1) := by decide +kernel
theorem dX9_where_17 : decode cX9_where 17 = .ok (.bipush 120, 2) := by decide +kernel
theorem dX9_where_19 : decode cX9_where 19 = .ok (.invokestatic 107, 3) := by decide +kernel
theorem dX9_where_22 : decode cX9_where 22 = .ok (.ifCond .ne 5, 3) := by decide +kernel
theorem dX9_where_25 : decode cX9_where 25 = .ok (.iconst (-1), 1) := by decide +kernel
theorem dX9_where_26 : decode cX9_where 26 = .ok (.ireturn, 1) := by decide +kernel
theorem dX9_where_27 : decode cX9_where 27 = .ok (.aload_n 0, 1) := by decide +kernel
theorem dX9_where_28 : decode cX9_where 28 = .ok (.getfield 59, 3) := by decide +kernel
theorem dX9_where_31 : decode cX9_where 31 = .ok (.aload_n 0, 1) := by decide +kernel
theorem dX9_where_32 : decode cX9_where 32 = .ok (.getfield 38, 3) := by decide +kernel
theorem dX9_where_35 : decode cX9_where 35 = .ok (.iload_n 1, 1) := by decide +kernel
theorem dX9_where_36 : decode cX9_where 36 = .ok (.iload_n 3, 1) := by decide +kernel
theorem dX9_where_37 : decode cX9_where 37 = .ok (.invokevirtual 145, 3) := by decide +kernel
theorem dX9_where_40 : decode cX9_where 40 = .ok (.pop, 1) := by decide +kernel
theorem dX9_where_41 : decode cX9_where 41 = .ok (.aload_n 0, 1) := by decide +kernel
theorem dX9_where_42 : decode cX9_where 42 = .ok (.getfield 59, 3) := by decide +kernel
theorem dX9_where_45 : decode cX9_where 45 = .ok (.getfield 149, 3) := by decide +kernel
theorem dX9_where_48 : decode cX9_where 48 = .ok (.iload_n 2, 1) := by decide +kernel
theorem dX9_where_49 : decode cX9_where 49 = .ok (.iaload, 1) := by decide +kernel
theorem dX9_where_50 : decode cX9_where 50 = .ok (.ireturn, 1) := by decide +kernel
theorem dX9_there_0 : decode cX9_there 0 = .ok (.iload_n 1, 1) := by decide +kernel
theorem dX9_there_1 : decode cX9_there 1 = .ok (.invokestatic 142, 3) := by decide +kernel
theorem dX9_there_4 : decode cX9_there 4 = .ok (.ifCond .eq 11, 3) := by decide +kernel
theorem dX9_there_7 : decode cX9_there 7 = .ok (.aload_n 0, 1) := by decide +kernel
theorem dX9_there_8 : decode cX9_there 8 = .ok (.iload_n 2, 1) := by decide +kernel
theorem dX9_there_9 : decode cX9_there 9 = .ok (.invokevirtual 120, 3) := by decide +kernel
theorem dX9_there_12 : decode cX9_there 12 = .ok (.ifCond .ne 5, 3) := by decide +kernel
theorem dX9_there_15 : decode cX9_there 15 = .ok (.iconst (-1), 1) := by decide +kernel
theorem dX9_there_16 : decode cX9_there 16 = .ok (.ireturn, 1) := by decide +kernel
theorem dX9_there_17 : decode cX9_there 17 = .ok (.aload_n 0, 1) := by decide +kernel
theorem dX9_there_18 : decode cX9_there 18 = .ok (.getfield 59, 3) := by decide +kernel
theorem dX9_there_21 : decode cX9_there 21 = .ok (.aload_n 0, 1) := by decide +kernel
theorem dX9_there_22 : decode cX9_there 22 = .ok (.getfield 38, 3) := by decide +kernel
theorem dX9_there_25 : decode cX9_there 25 = .ok (.iload_n 1, 1) := by decide +kernel
theorem dX9_there_26 : decode cX9_there 26 = .ok (.bipush 120, 2) := by decide +kernel
theorem dX9_there_28 : decode cX9_there 28 = .ok (.invokevirtual 145, 3) := by decide +kernel
theorem dX9_there_31 : decode cX9_there 31 = .ok (.pop, 1) := by decide +kernel
theorem dX9_there_32 : decode cX9_there 32 = .ok (.aload_n 0, 1) := by decide +kernel
theorem dX9_there_33 : decode cX9_there 33 = .ok (.getfield 59, 3) := by decide +kernel
theorem dX9_there_36 : decode cX9_there 36 = .ok (.getfield 152, 3) := by decide +kernel
theorem dX9_there_39 : decode cX9_there 39 = .ok (.iload_n 2, 1) := by decide +kernel
theorem dX9_there_40 : decode cX9_there 40 = .ok (.iaload, 1) := by decide +kernel
theorem dX9_there_41 : decode cX9_there 41 = .ok (.ireturn, 1) := by decide +kernel
theorem dX9_stands_0 : decode cX9_stands 0 = .ok (.iload_n 1, 1) := by decide +kernel
theorem dX9_stands_1 : decode cX9_stands 1 = .ok (.invokestatic 142, 3) := by decide +kernel
theorem dX9_stands_4 : decode cX9_stands 4 = .ok (.ifCond .eq 16, 3) := by decide +kernel
theorem dX9_stands_7 : decode cX9_stands 7 = .ok (.iload_n 2, 1) := by decide +kernel
theorem dX9_stands_8 : decode cX9_stands 8 = .ok (.iconst (-1), 1) := by decide +kernel
theorem dX9_stands_9 : decode cX9_stands 9 = .ok (.if_icmp .eq 13, 3) := by decide +kernel
theorem dX9_stands_12 : decode cX9_stands 12 = .ok (.aload_n 0, 1) := by decide +kernel
theorem dX9_stands_13 : decode cX9_stands 13 = .ok (.iload_n 2, 1) := by decide +kernel
theorem dX9_stands_14 : decode cX9_stands 14 = .ok (.invokevirtual 120, 3) := by decide +kernel
theorem dX9_stands_17 : decode cX9_stands 17 = .ok (.ifCond .ne 5, 3) := by decide +kernel
theorem dX9_stands_20 : decode cX9_stands 20 = .ok (.iconst (-1), 1) := by decide +kernel
theorem dX9_stands_21 : decode cX9_stands 21 = .ok (.ireturn, 1) := by decide +kernel
theorem dX9_stands_22 : decode cX9_stands 22 = .ok (.aload_n 0, 1) := by decide +kernel
theorem dX9_stands_23 : decode cX9_stands 23 = .ok (.getfield 59, 3) := by decide +kernel
theorem dX9_stands_26 : decode cX9_stands 26 = .ok (.aload_n 0, 1) := by decide +kernel
theorem dX9_stands_27 : decode cX9_stands 27 = .ok (.getfield 38, 3) := by decide +kernel
theorem dX9_stands_30 : decode cX9_stands 30 = .ok (.iload_n 1, 1) := by decide +kernel
theorem dX9_stands_31 : decode cX9_stands 31 = .ok (.bipush 120, 2) := by decide +kernel
theorem dX9_stands_33 : decode cX9_stands 33 = .ok (.invokevirtual 145, 3) := by decide +kernel
theorem dX9_stands_36 : decode cX9_stands 36 = .ok (.istore_n 3, 1) := by decide +kernel
theorem dX9_stands_37 : decode cX9_stands 37 = .ok (.iload_n 2, 1) := by decide +kernel
theorem dX9_stands_38 : decode cX9_stands 38 = .ok (.iconst (-1), 1) := by decide +kernel
theorem dX9_stands_39 : decode cX9_stands 39 = .ok (.if_icmp .ne 7, 3) := by decide +kernel
theorem dX9_stands_42 : decode cX9_stands 42 = .ok (.iload_n 3, 1) := by decide +kernel
theorem dX9_stands_43 : decode cX9_stands 43 = .ok (.goto 12, 3) := by decide +kernel
theorem dX9_stands_46 : decode cX9_stands 46 = .ok (.aload_n 0, 1) := by decide +kernel
theorem dX9_stands_47 : decode cX9_stands 47 = .ok (.getfield 59, 3) := by decide +kernel
theorem dX9_stands_50 : decode cX9_stands 50 = .ok (.getfield 155, 3) := by decide +kernel
theorem dX9_stands_53 : decode cX9_stands 53 = .ok (.iload_n 2, 1) := by decide +kernel
theorem dX9_stands_54 : decode cX9_stands 54 = .ok (.iaload, 1) := by decide +kernel
theorem dX9_stands_55 : decode cX9_stands 55 = .ok (.ireturn, 1) := by decide +kernel
theorem dX9_yields_0 : decode cX9_yields 0 = .ok (.iload_n 1, 1) := by decide +kernel
theorem dX9_yields_1 : decode cX9_yields 1 = .ok (.invokestatic 142, 3) := by decide +kernel
theorem dX9_yields_4 : decode cX9_yields 4 = .ok (.ifCond .eq 11, 3) := by decide +kernel
theorem dX9_yields_7 : decode cX9_yields 7 = .ok (.aload_n 0, 1) := by decide +kernel
theorem dX9_yields_8 : decode cX9_yields 8 = .ok (.iload_n 2, 1) := by decide +kernel
theorem dX9_yields_9 : decode cX9_yields 9 = .ok (.invokevirtual 120, 3) := by decide +kernel
theorem dX9_yields_12 : decode cX9_yields 12 = .ok (.ifCond .ne 5, 3) := by decide +kernel
theorem dX9_yields_15 : decode cX9_yields 15 = .ok (.iconst (-1), 1) := by decide +kernel
theorem dX9_yields_16 : decode cX9_yields 16 = .ok (.ireturn, 1) := by decide +kernel
theorem dX9_yields_17 : decode cX9_yields 17 = .ok (.aload_n 0, 1) := by decide +kernel
theorem dX9_yields_18 : decode cX9_yields 18 = .ok (.getfield 59, 3) := by decide +kernel
theorem dX9_yields_21 : decode cX9_yields 21 = .ok (.aload_n 0, 1) := by decide +kernel
theorem dX9_yields_22 : decode cX9_yields 22 = .ok (.getfield 38, 3) := by decide +kernel
theorem dX9_yields_25 : decode cX9_yields 25 = .ok (.iload_n 1, 1) := by decide +kernel
theorem dX9_yields_26 : decode cX9_yields 26 = .ok (.bipush 120, 2) := by decide +kernel
theorem dX9_yields_28 : decode cX9_yields 28 = .ok (.invokevirtual 145, 3) := by decide +kernel
theorem dX9_yields_31 : decode cX9_yields 31 = .ok (.pop, 1) := by decide +kernel
theorem dX9_yields_32 : decode cX9_yields 32 = .ok (.aload_n 0, 1) := by decide +kernel
theorem dX9_yields_33 : decode cX9_yields 33 = .ok (.getfield 59, 3) := by decide +kernel
theorem dX9_yields_36 : decode cX9_yields 36 = .ok (.getfield 158, 3) := by decide +kernel
theorem dX9_yields_39 : decode cX9_yields 39 = .ok (.iload_n 2, 1) := by decide +kernel
theorem dX9_yields_40 : decode cX9_yields 40 = .ok (.iaload, 1) := by decide +kernel
theorem dX9_yields_41 : decode cX9_yields 41 = .ok (.ireturn, 1) := by decide +kernel
theorem dX9_meetings_0 : decode cX9_meetings 0 = .ok (.iload_n 1, 1) := by decide +kernel
theorem dX9_meetings_1 : decode cX9_meetings 1 = .ok (.invokestatic 142, 3) := by decide +kernel
theorem dX9_meetings_4 : decode cX9_meetings 4 = .ok (.ifCond .ne 5, 3) := by decide +kernel
theorem dX9_meetings_7 : decode cX9_meetings 7 = .ok (.iconst (-1), 1) := by decide +kernel
theorem dX9_meetings_8 : decode cX9_meetings 8 = .ok (.ireturn, 1) := by decide +kernel
theorem dX9_meetings_9 : decode cX9_meetings 9 = .ok (.aload_n 0, 1) := by decide +kernel
theorem dX9_meetings_10 : decode cX9_meetings 10 = .ok (.getfield 59, 3) := by decide +kernel
theorem dX9_meetings_13 : decode cX9_meetings 13 = .ok (.aload_n 0, 1) := by decide +kernel
theorem dX9_meetings_14 : decode cX9_meetings 14 = .ok (.getfield 38, 3) := by decide +kernel
theorem dX9_meetings_17 : decode cX9_meetings 17 = .ok (.iload_n 1, 1) := by decide +kernel
theorem dX9_meetings_18 : decode cX9_meetings 18 = .ok (.bipush 120, 2) := by decide +kernel
theorem dX9_meetings_20 : decode cX9_meetings 20 = .ok (.invokevirtual 145, 3) := by decide +kernel
theorem dX9_meetings_23 : decode cX9_meetings 23 = .ok (.pop, 1) := by decide +kernel
theorem dX9_meetings_24 : decode cX9_meetings 24 = .ok (.aload_n 0, 1) := by decide +kernel
theorem dX9_meetings_25 : decode cX9_meetings 25 = .ok (.getfield 59, 3) := by decide +kernel
theorem dX9_meetings_28 : decode cX9_meetings 28 = .ok (.getfield 161, 3) := by decide +kernel
theorem dX9_meetings_31 : decode cX9_meetings 31 = .ok (.ireturn, 1) := by decide +kernel
theorem dX9_meeting_0 : decode cX9_meeting 0 = .ok (.iload_n 1, 1) := by decide +kernel
theorem dX9_meeting_1 : decode cX9_meeting 1 = .ok (.invokestatic 142, 3) := by decide +kernel
theorem dX9_meeting_4 : decode cX9_meeting 4 = .ok (.ifCond .ne 5, 3) := by decide +kernel
theorem dX9_meeting_7 : decode cX9_meeting 7 = .ok (.iconst (-1), 1) := by decide +kernel
theorem dX9_meeting_8 : decode cX9_meeting 8 = .ok (.ireturn, 1) := by decide +kernel
theorem dX9_meeting_9 : decode cX9_meeting 9 = .ok (.aload_n 0, 1) := by decide +kernel
theorem dX9_meeting_10 : decode cX9_meeting 10 = .ok (.getfield 59, 3) := by decide +kernel
theorem dX9_meeting_13 : decode cX9_meeting 13 = .ok (.aload_n 0, 1) := by decide +kernel
theorem dX9_meeting_14 : decode cX9_meeting 14 = .ok (.getfield 38, 3) := by decide +kernel
theorem dX9_meeting_17 : decode cX9_meeting 17 = .ok (.iload_n 1, 1) := by decide +kernel
theorem dX9_meeting_18 : decode cX9_meeting 18 = .ok (.bipush 120, 2) := by decide +kernel
theorem dX9_meeting_20 : decode cX9_meeting 20 = .ok (.invokevirtual 145, 3) := by decide +kernel
theorem dX9_meeting_23 : decode cX9_meeting 23 = .ok (.pop, 1) := by decide +kernel
theorem dX9_meeting_24 : decode cX9_meeting 24 = .ok (.iload_n 2, 1) := by decide +kernel
theorem dX9_meeting_25 : decode cX9_meeting 25 = .ok (.iconst 0, 1) := by decide +kernel
theorem dX9_meeting_26 : decode cX9_meeting 26 = .ok (.aload_n 0, 1) := by decide +kernel
theorem dX9_meeting_27 : decode cX9_meeting 27 = .ok (.getfield 59, 3) := by decide +kernel
theorem dX9_meeting_30 : decode cX9_meeting 30 = .ok (.getfield 161, 3) := by decide +kernel
theorem dX9_meeting_33 : decode cX9_meeting 33 = .ok (.iconst 1, 1) := by decide +kernel
theorem dX9_meeting_34 : decode cX9_meeting 34 = .ok (.isub, 1) := by decide +kernel
theorem dX9_meeting_35 : decode cX9_meeting 35 = .ok (.invokestatic 107, 3) := by decide +kernel
theorem dX9_meeting_38 : decode cX9_meeting 38 = .ok (.ifCond .ne 5, 3) := by decide +kernel
theorem dX9_meeting_41 : decode cX9_meeting 41 = .ok (.iconst (-1), 1) := by decide +kernel
theorem dX9_meeting_42 : decode cX9_meeting 42 = .ok (.ireturn, 1) := by decide +kernel
theorem dX9_meeting_43 : decode cX9_meeting 43 = .ok (.iload_n 3, 1) := by decide +kernel
theorem dX9_meeting_44 : decode cX9_meeting 44 = .ok (.tableswitch 72 0 3 #[32, 42, 52, 62], 32) := by decide +kernel
theorem dX9_meeting_76 : decode cX9_meeting 76 = .ok (.aload_n 0, 1) := by decide +kernel
theorem dX9_meeting_77 : decode cX9_meeting 77 = .ok (.getfield 59, 3) := by decide +kernel
theorem dX9_meeting_80 : decode cX9_meeting 80 = .ok (.getfield 164, 3) := by decide +kernel
theorem dX9_meeting_83 : decode cX9_meeting 83 = .ok (.iload_n 2, 1) := by decide +kernel
theorem dX9_meeting_84 : decode cX9_meeting 84 = .ok (.iaload, 1) := by decide +kernel
theorem dX9_meeting_85 : decode cX9_meeting 85 = .ok (.ireturn, 1) := by decide +kernel
theorem dX9_meeting_86 : decode cX9_meeting 86 = .ok (.aload_n 0, 1) := by decide +kernel
theorem dX9_meeting_87 : decode cX9_meeting 87 = .ok (.getfield 59, 3) := by decide +kernel
theorem dX9_meeting_90 : decode cX9_meeting 90 = .ok (.getfield 167, 3) := by decide +kernel
theorem dX9_meeting_93 : decode cX9_meeting 93 = .ok (.iload_n 2, 1) := by decide +kernel
theorem dX9_meeting_94 : decode cX9_meeting 94 = .ok (.iaload, 1) := by decide +kernel
theorem dX9_meeting_95 : decode cX9_meeting 95 = .ok (.ireturn, 1) := by decide +kernel
theorem dX9_meeting_96 : decode cX9_meeting 96 = .ok (.aload_n 0, 1) := by decide +kernel
theorem dX9_meeting_97 : decode cX9_meeting 97 = .ok (.getfield 59, 3) := by decide +kernel
theorem dX9_meeting_100 : decode cX9_meeting 100 = .ok (.getfield 170, 3) := by decide +kernel
theorem dX9_meeting_103 : decode cX9_meeting 103 = .ok (.iload_n 2, 1) := by decide +kernel
theorem dX9_meeting_104 : decode cX9_meeting 104 = .ok (.iaload, 1) := by decide +kernel
theorem dX9_meeting_105 : decode cX9_meeting 105 = .ok (.ireturn, 1) := by decide +kernel
theorem dX9_meeting_106 : decode cX9_meeting 106 = .ok (.aload_n 0, 1) := by decide +kernel
theorem dX9_meeting_107 : decode cX9_meeting 107 = .ok (.getfield 59, 3) := by decide +kernel
theorem dX9_meeting_110 : decode cX9_meeting 110 = .ok (.getfield 173, 3) := by decide +kernel
theorem dX9_meeting_113 : decode cX9_meeting 113 = .ok (.iload_n 2, 1) := by decide +kernel
theorem dX9_meeting_114 : decode cX9_meeting 114 = .ok (.iaload, 1) := by decide +kernel
theorem dX9_meeting_115 : decode cX9_meeting 115 = .ok (.ireturn, 1) := by decide +kernel
theorem dX9_meeting_116 : decode cX9_meeting 116 = .ok (.iconst (-1), 1) := by decide +kernel
theorem dX9_meeting_117 : decode cX9_meeting 117 = .ok (.ireturn, 1) := by decide +kernel
theorem dX9_load_0 : decode cX9_load 0 = .ok (.aload_n 0, 1) := by decide +kernel
theorem dX9_load_1 : decode cX9_load 1 = .ok (.iload_n 1, 1) := by decide +kernel
theorem dX9_load_2 : decode cX9_load 2 = .ok (.invokevirtual 120, 3) := by decide +kernel
theorem dX9_load_5 : decode cX9_load 5 = .ok (.ifCond .eq 13, 3) := by decide +kernel
theorem dX9_load_8 : decode cX9_load 8 = .ok (.iload_n 2, 1) := by decide +kernel
theorem dX9_load_9 : decode cX9_load 9 = .ok (.iconst 0, 1) := by decide +kernel
theorem dX9_load_10 : decode cX9_load 10 = .ok (.bipush 9, 2) := by decide +kernel
theorem dX9_load_12 : decode cX9_load 12 = .ok (.invokestatic 107, 3) := by decide +kernel
theorem dX9_load_15 : decode cX9_load 15 = .ok (.ifCond .ne 5, 3) := by decide +kernel
theorem dX9_load_18 : decode cX9_load 18 = .ok (.iconst (-1), 1) := by decide +kernel
theorem dX9_load_19 : decode cX9_load 19 = .ok (.ireturn, 1) := by decide +kernel
theorem dX9_load_20 : decode cX9_load 20 = .ok (.aload_n 0, 1) := by decide +kernel
theorem dX9_load_21 : decode cX9_load 21 = .ok (.getfield 38, 3) := by decide +kernel
theorem dX9_load_24 : decode cX9_load 24 = .ok (.getfield 133, 3) := by decide +kernel
theorem dX9_load_27 : decode cX9_load 27 = .ok (.iload_n 1, 1) := by decide +kernel
theorem dX9_load_28 : decode cX9_load 28 = .ok (.iaload, 1) := by decide +kernel
theorem dX9_load_29 : decode cX9_load 29 = .ok (.istore_n 3, 1) := by decide +kernel
theorem dX9_load_30 : decode cX9_load 30 = .ok (.aload_n 0, 1) := by decide +kernel
theorem dX9_load_31 : decode cX9_load 31 = .ok (.getfield 66, 3) := by decide +kernel
theorem dX9_load_34 : decode cX9_load 34 = .ok (.iload_n 1, 1) := by decide +kernel
theorem dX9_load_35 : decode cX9_load 35 = .ok (.iconst 1, 1) := by decide +kernel
theorem dX9_load_36 : decode cX9_load 36 = .ok (.iload_n 3, 1) := by decide +kernel
theorem dX9_load_37 : decode cX9_load 37 = .ok (.invokevirtual 176, 3) := by decide +kernel
theorem dX9_load_40 : decode cX9_load 40 = .ok (.aload_n 0, 1) := by decide +kernel
theorem dX9_load_41 : decode cX9_load 41 = .ok (.getfield 38, 3) := by decide +kernel
theorem dX9_load_44 : decode cX9_load 44 = .ok (.getfield 133, 3) := by decide +kernel
theorem dX9_load_47 : decode cX9_load 47 = .ok (.iload_n 1, 1) := by decide +kernel
theorem dX9_load_48 : decode cX9_load 48 = .ok (.iload_n 2, 1) := by decide +kernel
theorem dX9_load_49 : decode cX9_load 49 = .ok (.iastore, 1) := by decide +kernel
theorem dX9_load_50 : decode cX9_load 50 = .ok (.iload_n 3, 1) := by decide +kernel
theorem dX9_load_51 : decode cX9_load 51 = .ok (.ireturn, 1) := by decide +kernel
theorem dX9_later_0 : decode cX9_later 0 = .ok (.aload_n 0, 1) := by decide +kernel
theorem dX9_later_1 : decode cX9_later 1 = .ok (.iload_n 1, 1) := by decide +kernel
theorem dX9_later_2 : decode cX9_later 2 = .ok (.invokevirtual 120, 3) := by decide +kernel
theorem dX9_later_5 : decode cX9_later 5 = .ok (.ifCond .eq 13, 3) := by decide +kernel
theorem dX9_later_8 : decode cX9_later 8 = .ok (.iload_n 2, 1) := by decide +kernel
theorem dX9_later_9 : decode cX9_later 9 = .ok (.iconst 0, 1) := by decide +kernel
theorem dX9_later_10 : decode cX9_later 10 = .ok (.bipush 30, 2) := by decide +kernel
theorem dX9_later_12 : decode cX9_later 12 = .ok (.invokestatic 107, 3) := by decide +kernel
theorem dX9_later_15 : decode cX9_later 15 = .ok (.ifCond .ne 5, 3) := by decide +kernel
theorem dX9_later_18 : decode cX9_later 18 = .ok (.iconst (-1), 1) := by decide +kernel
theorem dX9_later_19 : decode cX9_later 19 = .ok (.ireturn, 1) := by decide +kernel
theorem dX9_later_20 : decode cX9_later 20 = .ok (.aload_n 0, 1) := by decide +kernel
theorem dX9_later_21 : decode cX9_later 21 = .ok (.getfield 38, 3) := by decide +kernel
theorem dX9_later_24 : decode cX9_later 24 = .ok (.getfield 139, 3) := by decide +kernel
theorem dX9_later_27 : decode cX9_later 27 = .ok (.iload_n 1, 1) := by decide +kernel
theorem dX9_later_28 : decode cX9_later 28 = .ok (.iaload, 1) := by decide +kernel
theorem dX9_later_29 : decode cX9_later 29 = .ok (.istore_n 3, 1) := by decide +kernel
theorem dX9_later_30 : decode cX9_later 30 = .ok (.aload_n 0, 1) := by decide +kernel
theorem dX9_later_31 : decode cX9_later 31 = .ok (.getfield 66, 3) := by decide +kernel
theorem dX9_later_34 : decode cX9_later 34 = .ok (.iload_n 1, 1) := by decide +kernel
theorem dX9_later_35 : decode cX9_later 35 = .ok (.iconst 0, 1) := by decide +kernel
theorem dX9_later_36 : decode cX9_later 36 = .ok (.iload_n 3, 1) := by decide +kernel
theorem dX9_later_37 : decode cX9_later 37 = .ok (.invokevirtual 176, 3) := by decide +kernel
theorem dX9_later_40 : decode cX9_later 40 = .ok (.aload_n 0, 1) := by decide +kernel
theorem dX9_later_41 : decode cX9_later 41 = .ok (.getfield 38, 3) := by decide +kernel
theorem dX9_later_44 : decode cX9_later 44 = .ok (.getfield 139, 3) := by decide +kernel
theorem dX9_later_47 : decode cX9_later 47 = .ok (.iload_n 1, 1) := by decide +kernel
theorem dX9_later_48 : decode cX9_later 48 = .ok (.iload_n 2, 1) := by decide +kernel
theorem dX9_later_49 : decode cX9_later 49 = .ok (.iastore, 1) := by decide +kernel
theorem dX9_later_50 : decode cX9_later 50 = .ok (.iload_n 3, 1) := by decide +kernel
theorem dX9_later_51 : decode cX9_later 51 = .ok (.ireturn, 1) := by decide +kernel
theorem dX9_undo_0 : decode cX9_undo 0 = .ok (.aload_n 0, 1) := by decide +kernel
theorem dX9_undo_1 : decode cX9_undo 1 = .ok (.getfield 66, 3) := by decide +kernel
theorem dX9_undo_4 : decode cX9_undo 4 = .ok (.aload_n 0, 1) := by decide +kernel
theorem dX9_undo_5 : decode cX9_undo 5 = .ok (.getfield 38, 3) := by decide +kernel
theorem dX9_undo_8 : decode cX9_undo 8 = .ok (.invokevirtual 180, 3) := by decide +kernel
theorem dX9_undo_11 : decode cX9_undo 11 = .ok (.ifCond .eq 13, 3) := by decide +kernel
theorem dX9_undo_14 : decode cX9_undo 14 = .ok (.aload_n 0, 1) := by decide +kernel
theorem dX9_undo_15 : decode cX9_undo 15 = .ok (.getfield 66, 3) := by decide +kernel
theorem dX9_undo_18 : decode cX9_undo 18 = .ok (.getfield 184, 3) := by decide +kernel
theorem dX9_undo_21 : decode cX9_undo 21 = .ok (.goto 5, 3) := by decide +kernel
theorem dX9_undo_24 : decode cX9_undo 24 = .ok (.bipush (-2), 2) := by decide +kernel
theorem dX9_undo_26 : decode cX9_undo 26 = .ok (.ireturn, 1) := by decide +kernel
theorem dX9_who_0 : decode cX9_who 0 = .ok (.iload_n 1, 1) := by decide +kernel
theorem dX9_who_1 : decode cX9_who 1 = .ok (.invokestatic 142, 3) := by decide +kernel
theorem dX9_who_4 : decode cX9_who 4 = .ok (.ifCond .eq 12, 3) := by decide +kernel
theorem dX9_who_7 : decode cX9_who 7 = .ok (.aload_n 0, 1) := by decide +kernel
theorem dX9_who_8 : decode cX9_who 8 = .ok (.iload_n 2, 1) := by decide +kernel
theorem dX9_who_9 : decode cX9_who 9 = .ok (.iload_n 3, 1) := by decide +kernel
theorem dX9_who_10 : decode cX9_who 10 = .ok (.invokevirtual 187, 3) := by decide +kernel
theorem dX9_who_13 : decode cX9_who 13 = .ok (.ifCond .ne 5, 3) := by decide +kernel
theorem dX9_who_16 : decode cX9_who 16 = .ok (.iconst (-1), 1) := by decide +kernel
theorem dX9_who_17 : decode cX9_who 17 = .ok (.ireturn, 1) := by decide +kernel
theorem dX9_who_18 : decode cX9_who 18 = .ok (.aload_n 0, 1) := by decide +kernel
theorem dX9_who_19 : decode cX9_who 19 = .ok (.getfield 32, 3) := by decide +kernel
theorem dX9_who_22 : decode cX9_who 22 = .ok (.getfield 127, 3) := by decide +kernel
theorem dX9_who_25 : decode cX9_who 25 = .ok (.iload_n 2, 1) := by decide +kernel
theorem dX9_who_26 : decode cX9_who 26 = .ok (.iaload, 1) := by decide +kernel
theorem dX9_who_27 : decode cX9_who 27 = .ok (.aload_n 0, 1) := by decide +kernel
theorem dX9_who_28 : decode cX9_who 28 = .ok (.getfield 32, 3) := by decide +kernel
theorem dX9_who_31 : decode cX9_who 31 = .ok (.getfield 127, 3) := by decide +kernel
theorem dX9_who_34 : decode cX9_who 34 = .ok (.iload_n 3, 1) := by decide +kernel
theorem dX9_who_35 : decode cX9_who 35 = .ok (.iaload, 1) := by decide +kernel
theorem dX9_who_36 : decode cX9_who 36 = .ok (.if_icmp .ne 6, 3) := by decide +kernel
theorem dX9_who_39 : decode cX9_who 39 = .ok (.bipush (-2), 2) := by decide +kernel
theorem dX9_who_41 : decode cX9_who 41 = .ok (.ireturn, 1) := by decide +kernel
theorem dX9_who_42 : decode cX9_who 42 = .ok (.aload_n 0, 1) := by decide +kernel
theorem dX9_who_43 : decode cX9_who 43 = .ok (.getfield 50, 3) := by decide +kernel
theorem dX9_who_46 : decode cX9_who 46 = .ok (.aload_n 0, 1) := by decide +kernel
theorem dX9_who_47 : decode cX9_who 47 = .ok (.getfield 38, 3) := by decide +kernel
theorem dX9_who_50 : decode cX9_who 50 = .ok (.iload_n 1, 1) := by decide +kernel
theorem dX9_who_51 : decode cX9_who 51 = .ok (.iload_n 2, 1) := by decide +kernel
theorem dX9_who_52 : decode cX9_who 52 = .ok (.iload_n 3, 1) := by decide +kernel
theorem dX9_who_53 : decode cX9_who 53 = .ok (.invokevirtual 191, 3) := by decide +kernel
theorem dX9_who_56 : decode cX9_who 56 = .ok (.ireturn, 1) := by decide +kernel
theorem dX9_best_0 : decode cX9_best 0 = .ok (.iload_n 1, 1) := by decide +kernel
theorem dX9_best_1 : decode cX9_best 1 = .ok (.iconst 0, 1) := by decide +kernel
theorem dX9_best_2 : decode cX9_best 2 = .ok (.iconst 1, 1) := by decide +kernel
theorem dX9_best_3 : decode cX9_best 3 = .ok (.invokestatic 107, 3) := by decide +kernel
theorem dX9_best_6 : decode cX9_best 6 = .ok (.ifCond .ne 5, 3) := by decide +kernel
theorem dX9_best_9 : decode cX9_best 9 = .ok (.iconst (-1), 1) := by decide +kernel
theorem dX9_best_10 : decode cX9_best 10 = .ok (.ireturn, 1) := by decide +kernel
theorem dX9_best_11 : decode cX9_best 11 = .ok (.aload_n 0, 1) := by decide +kernel
theorem dX9_best_12 : decode cX9_best 12 = .ok (.invokevirtual 195, 3) := by decide +kernel
theorem dX9_best_15 : decode cX9_best 15 = .ok (.istore_n 2, 1) := by decide +kernel
theorem dX9_best_16 : decode cX9_best 16 = .ok (.iload_n 1, 1) := by decide +kernel
theorem dX9_best_17 : decode cX9_best 17 = .ok (.ifCond .ne 7, 3) := by decide +kernel
theorem dX9_best_20 : decode cX9_best 20 = .ok (.iload_n 2, 1) := by decide +kernel
theorem dX9_best_21 : decode cX9_best 21 = .ok (.goto 17, 3) := by decide +kernel
theorem dX9_best_24 : decode cX9_best 24 = .ok (.aload_n 0, 1) := by decide +kernel
theorem dX9_best_25 : decode cX9_best 25 = .ok (.getfield 59, 3) := by decide +kernel
theorem dX9_best_28 : decode cX9_best 28 = .ok (.aload_n 0, 1) := by decide +kernel
theorem dX9_best_29 : decode cX9_best 29 = .ok (.getfield 38, 3) := by decide +kernel
theorem dX9_best_32 : decode cX9_best 32 = .ok (.iload_n 2, 1) := by decide +kernel
theorem dX9_best_33 : decode cX9_best 33 = .ok (.bipush 120, 2) := by decide +kernel
theorem dX9_best_35 : decode cX9_best 35 = .ok (.invokevirtual 145, 3) := by decide +kernel
theorem dX9_best_38 : decode cX9_best 38 = .ok (.ireturn, 1) := by decide +kernel
theorem dX9_custom_0 : decode cX9_custom 0 = .ok (.aload_n 0, 1) := by decide +kernel
theorem dX9_custom_1 : decode cX9_custom 1 = .ok (.getfield 59, 3) := by decide +kernel
theorem dX9_custom_4 : decode cX9_custom 4 = .ok (.aload_n 0, 1) := by decide +kernel
theorem dX9_custom_5 : decode cX9_custom 5 = .ok (.getfield 38, 3) := by decide +kernel
theorem dX9_custom_8 : decode cX9_custom 8 = .ok (.aload_n 0, 1) := by decide +kernel
theorem dX9_custom_9 : decode cX9_custom 9 = .ok (.invokevirtual 195, 3) := by decide +kernel
theorem dX9_custom_12 : decode cX9_custom 12 = .ok (.bipush 120, 2) := by decide +kernel
theorem dX9_custom_14 : decode cX9_custom 14 = .ok (.invokevirtual 145, 3) := by decide +kernel
theorem dX9_custom_17 : decode cX9_custom 17 = .ok (.istore_n 1, 1) := by decide +kernel
theorem dX9_custom_18 : decode cX9_custom 18 = .ok (.aload_n 0, 1) := by decide +kernel
theorem dX9_custom_19 : decode cX9_custom 19 = .ok (.getfield 59, 3) := by decide +kernel
theorem dX9_custom_22 : decode cX9_custom 22 = .ok (.aload_n 0, 1) := by decide +kernel
theorem dX9_custom_23 : decode cX9_custom 23 = .ok (.getfield 38, 3) := by decide +kernel
theorem dX9_custom_26 : decode cX9_custom 26 = .ok (.iconst 0, 1) := by decide +kernel
theorem dX9_custom_27 : decode cX9_custom 27 = .ok (.bipush 120, 2) := by decide +kernel
theorem dX9_custom_29 : decode cX9_custom 29 = .ok (.invokevirtual 145, 3) := by decide +kernel
theorem dX9_custom_32 : decode cX9_custom 32 = .ok (.iload_n 1, 1) := by decide +kernel
theorem dX9_custom_33 : decode cX9_custom 33 = .ok (.isub, 1) := by decide +kernel
theorem dX9_custom_34 : decode cX9_custom 34 = .ok (.ireturn, 1) := by decide +kernel
theorem dX9_send_0 : decode cX9_send 0 = .ok (.iload_n 1, 1) := by decide +kernel
theorem dX9_send_1 : decode cX9_send 1 = .ok (.invokestatic 142, 3) := by decide +kernel
theorem dX9_send_4 : decode cX9_send 4 = .ok (.ifCond .eq 20, 3) := by decide +kernel
theorem dX9_send_7 : decode cX9_send 7 = .ok (.aload_n 0, 1) := by decide +kernel
theorem dX9_send_8 : decode cX9_send 8 = .ok (.iload_n 2, 1) := by decide +kernel
theorem dX9_send_9 : decode cX9_send 9 = .ok (.invokevirtual 120, 3) := by decide +kernel
theorem dX9_send_12 : decode cX9_send 12 = .ok (.ifCond .eq 12, 3) := by decide +kernel
theorem dX9_send_15 : decode cX9_send 15 = .ok (.iload_n 3, 1) := by decide +kernel
theorem dX9_send_16 : decode cX9_send 16 = .ok (.iconst 0, 1) := by decide +kernel
theorem dX9_send_17 : decode cX9_send 17 = .ok (.iconst 1, 1) := by decide +kernel
theorem dX9_send_18 : decode cX9_send 18 = .ok (.invokestatic 107, 3) := by decide +kernel
theorem dX9_send_21 : decode cX9_send 21 = .ok (.ifCond .ne 5, 3) := by decide +kernel
theorem dX9_send_24 : decode cX9_send 24 = .ok (.iconst (-1), 1) := by decide +kernel
theorem dX9_send_25 : decode cX9_send 25 = .ok (.ireturn, 1) := by decide +kernel
theorem dX9_send_26 : decode cX9_send 26 = .ok (.aload_n 0, 1) := by decide +kernel
theorem dX9_send_27 : decode cX9_send 27 = .ok (.getfield 42, 3) := by decide +kernel
theorem dX9_send_30 : decode cX9_send 30 = .ok (.aload_n 0, 1) := by decide +kernel
theorem dX9_send_31 : decode cX9_send 31 = .ok (.getfield 38, 3) := by decide +kernel
theorem dX9_send_34 : decode cX9_send 34 = .ok (.invokevirtual 198, 3) := by decide +kernel
theorem dX9_send_37 : decode cX9_send 37 = .ok (.iconst 0, 1) := by decide +kernel
theorem dX9_send_38 : decode cX9_send 38 = .ok (.istore 4, 2) := by decide +kernel
theorem dX9_send_40 : decode cX9_send 40 = .ok (.ldc 204, 2) := by decide +kernel
theorem dX9_send_42 : decode cX9_send 42 = .ok (.istore 5, 2) := by decide +kernel
theorem dX9_send_44 : decode cX9_send 44 = .ok (.iconst 0, 1) := by decide +kernel
theorem dX9_send_45 : decode cX9_send 45 = .ok (.istore 6, 2) := by decide +kernel
theorem dX9_send_47 : decode cX9_send 47 = .ok (.iload 6, 2) := by decide +kernel
theorem dX9_send_49 : decode cX9_send 49 = .ok (.bipush 30, 2) := by decide +kernel
theorem dX9_send_51 : decode cX9_send 51 = .ok (.if_icmp .gt 51, 3) := by decide +kernel
theorem dX9_send_54 : decode cX9_send 54 = .ok (.aload_n 0, 1) := by decide +kernel
theorem dX9_send_55 : decode cX9_send 55 = .ok (.getfield 42, 3) := by decide +kernel
theorem dX9_send_58 : decode cX9_send 58 = .ok (.getfield 139, 3) := by decide +kernel
theorem dX9_send_61 : decode cX9_send 61 = .ok (.iload_n 2, 1) := by decide +kernel
theorem dX9_send_62 : decode cX9_send 62 = .ok (.iload 6, 2) := by decide +kernel
theorem dX9_send_64 : decode cX9_send 64 = .ok (.iastore, 1) := by decide +kernel
theorem dX9_send_65 : decode cX9_send 65 = .ok (.aload_n 0, 1) := by decide +kernel
theorem dX9_send_66 : decode cX9_send 66 = .ok (.getfield 59, 3) := by decide +kernel
theorem dX9_send_69 : decode cX9_send 69 = .ok (.aload_n 0, 1) := by decide +kernel
theorem dX9_send_70 : decode cX9_send 70 = .ok (.getfield 42, 3) := by decide +kernel
theorem dX9_send_73 : decode cX9_send 73 = .ok (.iload_n 1, 1) := by decide +kernel
theorem dX9_send_74 : decode cX9_send 74 = .ok (.bipush 120, 2) := by decide +kernel
theorem dX9_send_76 : decode cX9_send 76 = .ok (.invokevirtual 145, 3) := by decide +kernel
theorem dX9_send_79 : decode cX9_send 79 = .ok (.istore 7, 2) := by decide +kernel
theorem dX9_send_81 : decode cX9_send 81 = .ok (.iload 7, 2) := by decide +kernel
theorem dX9_send_83 : decode cX9_send 83 = .ok (.iload 5, 2) := by decide +kernel
theorem dX9_send_85 : decode cX9_send 85 = .ok (.if_icmp .ge 11, 3) := by decide +kernel
theorem dX9_send_88 : decode cX9_send 88 = .ok (.iload 7, 2) := by decide +kernel
theorem dX9_send_90 : decode cX9_send 90 = .ok (.istore 5, 2) := by decide +kernel
theorem dX9_send_92 : decode cX9_send 92 = .ok (.iload 6, 2) := by decide +kernel
theorem dX9_send_94 : decode cX9_send 94 = .ok (.istore 4, 2) := by decide +kernel
theorem dX9_send_96 : decode cX9_send 96 = .ok (.iinc 6 1, 3) := by decide +kernel
theorem dX9_send_99 : decode cX9_send 99 = .ok (.goto (-52), 3) := by decide +kernel
theorem dX9_send_102 : decode cX9_send 102 = .ok (.iload_n 3, 1) := by decide +kernel
theorem dX9_send_103 : decode cX9_send 103 = .ok (.ifCond .ne 8, 3) := by decide +kernel
theorem dX9_send_106 : decode cX9_send 106 = .ok (.iload 4, 2) := by decide +kernel
theorem dX9_send_108 : decode cX9_send 108 = .ok (.goto 5, 3) := by decide +kernel
theorem dX9_send_111 : decode cX9_send 111 = .ok (.iload 5, 2) := by decide +kernel
theorem dX9_send_113 : decode cX9_send 113 = .ok (.ireturn, 1) := by decide +kernel
theorem dX9_swap_0 : decode cX9_swap 0 = .ok (.iload_n 1, 1) := by decide +kernel
theorem dX9_swap_1 : decode cX9_swap 1 = .ok (.invokestatic 142, 3) := by decide +kernel
theorem dX9_swap_4 : decode cX9_swap 4 = .ok (.ifCond .eq 12, 3) := by decide +kernel
theorem dX9_swap_7 : decode cX9_swap 7 = .ok (.iload_n 2, 1) := by decide +kernel
theorem dX9_swap_8 : decode cX9_swap 8 = .ok (.iconst 0, 1) := by decide +kernel
theorem dX9_swap_9 : decode cX9_swap 9 = .ok (.iconst 1, 1) := by decide +kernel
theorem dX9_swap_10 : decode cX9_swap 10 = .ok (.invokestatic 107, 3) := by decide +kernel
theorem dX9_swap_13 : decode cX9_swap 13 = .ok (.ifCond .ne 5, 3) := by decide +kernel
theorem dX9_swap_16 : decode cX9_swap 16 = .ok (.iconst (-1), 1) := by decide +kernel
theorem dX9_swap_17 : decode cX9_swap 17 = .ok (.ireturn, 1) := by decide +kernel
theorem dX9_swap_18 : decode cX9_swap 18 = .ok (.aload_n 0, 1) := by decide +kernel
theorem dX9_swap_19 : decode cX9_swap 19 = .ok (.getfield 59, 3) := by decide +kernel
theorem dX9_swap_22 : decode cX9_swap 22 = .ok (.aload_n 0, 1) := by decide +kernel
theorem dX9_swap_23 : decode cX9_swap 23 = .ok (.getfield 38, 3) := by decide +kernel
theorem dX9_swap_26 : decode cX9_swap 26 = .ok (.iload_n 1, 1) := by decide +kernel
theorem dX9_swap_27 : decode cX9_swap 27 = .ok (.bipush 120, 2) := by decide +kernel
theorem dX9_swap_29 : decode cX9_swap 29 = .ok (.invokevirtual 145, 3) := by decide +kernel
theorem dX9_swap_32 : decode cX9_swap 32 = .ok (.istore_n 3, 1) := by decide +kernel
theorem dX9_swap_33 : decode cX9_swap 33 = .ok (.bipush (-4), 2) := by decide +kernel
theorem dX9_swap_35 : decode cX9_swap 35 = .ok (.istore 4, 2) := by decide +kernel
theorem dX9_swap_37 : decode cX9_swap 37 = .ok (.iconst 0, 1) := by decide +kernel
theorem dX9_swap_38 : decode cX9_swap 38 = .ok (.istore 5, 2) := by decide +kernel
theorem dX9_swap_40 : decode cX9_swap 40 = .ok (.iload 5, 2) := by decide +kernel
theorem dX9_swap_42 : decode cX9_swap 42 = .ok (.aload_n 0, 1) := by decide +kernel
theorem dX9_swap_43 : decode cX9_swap 43 = .ok (.getfield 32, 3) := by decide +kernel
theorem dX9_swap_46 : decode cX9_swap 46 = .ok (.getfield 117, 3) := by decide +kernel
theorem dX9_swap_49 : decode cX9_swap 49 = .ok (.if_icmp .ge 63, 3) := by decide +kernel
theorem dX9_swap_52 : decode cX9_swap 52 = .ok (.iload 5, 2) := by decide +kernel
theorem dX9_swap_54 : decode cX9_swap 54 = .ok (.iconst 1, 1) := by decide +kernel
theorem dX9_swap_55 : decode cX9_swap 55 = .ok (.iadd, 1) := by decide +kernel
theorem dX9_swap_56 : decode cX9_swap 56 = .ok (.istore 6, 2) := by decide +kernel
theorem dX9_swap_58 : decode cX9_swap 58 = .ok (.iload 6, 2) := by decide +kernel
theorem dX9_swap_60 : decode cX9_swap 60 = .ok (.aload_n 0, 1) := by decide +kernel
theorem dX9_swap_61 : decode cX9_swap 61 = .ok (.getfield 32, 3) := by decide +kernel
theorem dX9_swap_64 : decode cX9_swap 64 = .ok (.getfield 117, 3) := by decide +kernel
theorem dX9_swap_67 : decode cX9_swap 67 = .ok (.if_icmp .ge 39, 3) := by decide +kernel
theorem dX9_swap_70 : decode cX9_swap 70 = .ok (.aload_n 0, 1) := by decide +kernel
theorem dX9_swap_71 : decode cX9_swap 71 = .ok (.iload_n 1, 1) := by decide +kernel
theorem dX9_swap_72 : decode cX9_swap 72 = .ok (.iload 5, 2) := by decide +kernel
theorem dX9_swap_74 : decode cX9_swap 74 = .ok (.iload 6, 2) := by decide +kernel
theorem dX9_swap_76 : decode cX9_swap 76 = .ok (.invokevirtual 205, 3) := by decide +kernel
theorem dX9_swap_79 : decode cX9_swap 79 = .ok (.istore 7, 2) := by decide +kernel
theorem dX9_swap_81 : decode cX9_swap 81 = .ok (.iload 7, 2) := by decide +kernel
theorem dX9_swap_83 : decode cX9_swap 83 = .ok (.iload_n 3, 1) := by decide +kernel
theorem dX9_swap_84 : decode cX9_swap 84 = .ok (.if_icmp .ge 16, 3) := by decide +kernel
theorem dX9_swap_87 : decode cX9_swap 87 = .ok (.iload 7, 2) := by decide +kernel
theorem dX9_swap_89 : decode cX9_swap 89 = .ok (.istore_n 3, 1) := by decide +kernel
theorem dX9_swap_90 : decode cX9_swap 90 = .ok (.bipush 8, 2) := by decide +kernel
theorem dX9_swap_92 : decode cX9_swap 92 = .ok (.iload 5, 2) := by decide +kernel
theorem dX9_swap_94 : decode cX9_swap 94 = .ok (.imul, 1) := by decide +kernel
theorem dX9_swap_95 : decode cX9_swap 95 = .ok (.iload 6, 2) := by decide +kernel
theorem dX9_swap_97 : decode cX9_swap 97 = .ok (.iadd, 1) := by decide +kernel
theorem dX9_swap_98 : decode cX9_swap 98 = .ok (.istore 4, 2) := by decide +kernel
theorem dX9_swap_100 : decode cX9_swap 100 = .ok (.iinc 6 1, 3) := by decide +kernel
theorem dX9_swap_103 : decode cX9_swap 103 = .ok (.goto (-45), 3) := by decide +kernel
theorem dX9_swap_106 : decode cX9_swap 106 = .ok (.iinc 5 1, 3) := by decide +kernel
theorem dX9_swap_109 : decode cX9_swap 109 = .ok (.goto (-69), 3) := by decide +kernel
theorem dX9_swap_112 : decode cX9_swap 112 = .ok (.iload_n 2, 1) := by decide +kernel
theorem dX9_swap_113 : decode cX9_swap 113 = .ok (.ifCond .eq 10, 3) := by decide +kernel
theorem dX9_swap_116 : decode cX9_swap 116 = .ok (.iload 4, 2) := by decide +kernel
theorem dX9_swap_118 : decode cX9_swap 118 = .ok (.bipush (-4), 2) := by decide +kernel
theorem dX9_swap_120 : decode cX9_swap 120 = .ok (.if_icmp .ne 8, 3) := by decide +kernel
theorem dX9_swap_123 : decode cX9_swap 123 = .ok (.iload 4, 2) := by decide +kernel
theorem dX9_swap_125 : decode cX9_swap 125 = .ok (.goto 4, 3) := by decide +kernel
theorem dX9_swap_128 : decode cX9_swap 128 = .ok (.iload_n 3, 1) := by decide +kernel
theorem dX9_swap_129 : decode cX9_swap 129 = .ok (.ireturn, 1) := by decide +kernel
theorem dX9_fall_0 : decode cX9_fall 0 = .ok (.aload_n 0, 1) := by decide +kernel
theorem dX9_fall_1 : decode cX9_fall 1 = .ok (.iload_n 1, 1) := by decide +kernel
theorem dX9_fall_2 : decode cX9_fall 2 = .ok (.iload_n 2, 1) := by decide +kernel
theorem dX9_fall_3 : decode cX9_fall 3 = .ok (.invokevirtual 187, 3) := by decide +kernel
theorem dX9_fall_6 : decode cX9_fall 6 = .ok (.ifCond .eq 12, 3) := by decide +kernel
theorem dX9_fall_9 : decode cX9_fall 9 = .ok (.iload_n 3, 1) := by decide +kernel
theorem dX9_fall_10 : decode cX9_fall 10 = .ok (.iconst 0, 1) := by decide +kernel
theorem dX9_fall_11 : decode cX9_fall 11 = .ok (.iconst 1, 1) := by decide +kernel
theorem dX9_fall_12 : decode cX9_fall 12 = .ok (.invokestatic 107, 3) := by decide +kernel
theorem dX9_fall_15 : decode cX9_fall 15 = .ok (.ifCond .ne 5, 3) := by decide +kernel
theorem dX9_fall_18 : decode cX9_fall 18 = .ok (.iconst (-1), 1) := by decide +kernel
theorem dX9_fall_19 : decode cX9_fall 19 = .ok (.ireturn, 1) := by decide +kernel
theorem dX9_fall_20 : decode cX9_fall 20 = .ok (.aload_n 0, 1) := by decide +kernel
theorem dX9_fall_21 : decode cX9_fall 21 = .ok (.iload_n 2, 1) := by decide +kernel
theorem dX9_fall_22 : decode cX9_fall 22 = .ok (.invokevirtual 209, 3) := by decide +kernel
theorem dX9_fall_25 : decode cX9_fall 25 = .ok (.istore 4, 2) := by decide +kernel
theorem dX9_fall_27 : decode cX9_fall 27 = .ok (.iload 4, 2) := by decide +kernel
theorem dX9_fall_29 : decode cX9_fall 29 = .ok (.aload_n 0, 1) := by decide +kernel
theorem dX9_fall_30 : decode cX9_fall 30 = .ok (.getfield 32, 3) := by decide +kernel
theorem dX9_fall_33 : decode cX9_fall 33 = .ok (.getfield 213, 3) := by decide +kernel
theorem dX9_fall_36 : decode cX9_fall 36 = .ok (.if_icmp .le 6, 3) := by decide +kernel
theorem dX9_fall_39 : decode cX9_fall 39 = .ok (.bipush (-4), 2) := by decide +kernel
theorem dX9_fall_41 : decode cX9_fall 41 = .ok (.ireturn, 1) := by decide +kernel
theorem dX9_fall_42 : decode cX9_fall 42 = .ok (.iload_n 3, 1) := by decide +kernel
theorem dX9_fall_43 : decode cX9_fall 43 = .ok (.ifCond .ne 8, 3) := by decide +kernel
theorem dX9_fall_46 : decode cX9_fall 46 = .ok (.iload 4, 2) := by decide +kernel
theorem dX9_fall_48 : decode cX9_fall 48 = .ok (.goto 10, 3) := by decide +kernel
theorem dX9_fall_51 : decode cX9_fall 51 = .ok (.aload_n 0, 1) := by decide +kernel
theorem dX9_fall_52 : decode cX9_fall 52 = .ok (.getfield 32, 3) := by decide +kernel
theorem dX9_fall_55 : decode cX9_fall 55 = .ok (.getfield 213, 3) := by decide +kernel
theorem dX9_fall_58 : decode cX9_fall 58 = .ok (.ireturn, 1) := by decide +kernel
theorem dX9_caught_0 : decode cX9_caught 0 = .ok (.aload_n 0, 1) := by decide +kernel
theorem dX9_caught_1 : decode cX9_caught 1 = .ok (.iload_n 1, 1) := by decide +kernel
theorem dX9_caught_2 : decode cX9_caught 2 = .ok (.invokevirtual 120, 3) := by decide +kernel
theorem dX9_caught_5 : decode cX9_caught 5 = .ok (.ifCond .eq 33, 3) := by decide +kernel
theorem dX9_caught_8 : decode cX9_caught 8 = .ok (.iload_n 2, 1) := by decide +kernel
theorem dX9_caught_9 : decode cX9_caught 9 = .ok (.iconst 0, 1) := by decide +kernel
theorem dX9_caught_10 : decode cX9_caught 10 = .ok (.bipush 6, 2) := by decide +kernel
theorem dX9_caught_12 : decode cX9_caught 12 = .ok (.invokestatic 107, 3) := by decide +kernel
theorem dX9_caught_15 : decode cX9_caught 15 = .ok (.ifCond .eq 23, 3) := by decide +kernel
theorem dX9_caught_18 : decode cX9_caught 18 = .ok (.iload_n 3, 1) := by decide +kernel
theorem dX9_caught_19 : decode cX9_caught 19 = .ok (.iconst 0, 1) := by decide +kernel
theorem dX9_caught_20 : decode cX9_caught 20 = .ok (.bipush 10, 2) := by decide +kernel
theorem dX9_caught_22 : decode cX9_caught 22 = .ok (.invokestatic 107, 3) := by decide +kernel
theorem dX9_caught_25 : decode cX9_caught 25 = .ok (.ifCond .eq 13, 3) := by decide +kernel
theorem dX9_caught_28 : decode cX9_caught 28 = .ok (.iload 4, 2) := by decide +kernel
theorem dX9_caught_30 : decode cX9_caught 30 = .ok (.iconst 0, 1) := by decide +kernel
theorem dX9_caught_31 : decode cX9_caught 31 = .ok (.iconst 1, 1) := by decide +kernel
theorem dX9_caught_32 : decode cX9_caught 32 = .ok (.invokestatic 107, 3) := by decide +kernel
theorem dX9_caught_35 : decode cX9_caught 35 = .ok (.ifCond .ne 5, 3) := by decide +kernel
theorem dX9_caught_38 : decode cX9_caught 38 = .ok (.iconst (-1), 1) := by decide +kernel
theorem dX9_caught_39 : decode cX9_caught 39 = .ok (.ireturn, 1) := by decide +kernel
theorem dX9_caught_40 : decode cX9_caught 40 = .ok (.aload_n 0, 1) := by decide +kernel
theorem dX9_caught_41 : decode cX9_caught 41 = .ok (.iload_n 1, 1) := by decide +kernel
theorem dX9_caught_42 : decode cX9_caught 42 = .ok (.invokevirtual 209, 3) := by decide +kernel
theorem dX9_caught_45 : decode cX9_caught 45 = .ok (.iload_n 2, 1) := by decide +kernel
theorem dX9_caught_46 : decode cX9_caught 46 = .ok (.iload_n 3, 1) := by decide +kernel
theorem dX9_caught_47 : decode cX9_caught 47 = .ok (.invokestatic 216, 3) := by decide +kernel
theorem dX9_caught_50 : decode cX9_caught 50 = .ok (.istore 5, 2) := by decide +kernel
theorem dX9_caught_52 : decode cX9_caught 52 = .ok (.bipush 10, 2) := by decide +kernel
theorem dX9_caught_54 : decode cX9_caught 54 = .ok (.iload_n 2, 1) := by decide +kernel
theorem dX9_caught_55 : decode cX9_caught 55 = .ok (.invokestatic 219, 3) := by decide +kernel
theorem dX9_caught_58 : decode cX9_caught 58 = .ok (.istore 6, 2) := by decide +kernel
theorem dX9_caught_60 : decode cX9_caught 60 = .ok (.iload 5, 2) := by decide +kernel
theorem dX9_caught_62 : decode cX9_caught 62 = .ok (.iload 6, 2) := by decide +kernel
theorem dX9_caught_64 : decode cX9_caught 64 = .ok (.invokestatic 223, 3) := by decide +kernel
theorem dX9_caught_67 : decode cX9_caught 67 = .ok (.istore 7, 2) := by decide +kernel
theorem dX9_caught_69 : decode cX9_caught 69 = .ok (.iload 4, 2) := by decide +kernel
theorem dX9_caught_71 : decode cX9_caught 71 = .ok (.ifCond .ne 8, 3) := by decide +kernel
theorem dX9_caught_74 : decode cX9_caught 74 = .ok (.iload 5, 2) := by decide +kernel
theorem dX9_caught_76 : decode cX9_caught 76 = .ok (.goto 5, 3) := by decide +kernel
theorem dX9_caught_79 : decode cX9_caught 79 = .ok (.iload 6, 2) := by decide +kernel
theorem dX9_caught_81 : decode cX9_caught 81 = .ok (.iload 7, 2) := by decide +kernel
theorem dX9_caught_83 : decode cX9_caught 83 = .ok (.iconst 1, 1) := by decide +kernel
theorem dX9_caught_84 : decode cX9_caught 84 = .ok (.invokestatic 226, 3) := by decide +kernel
theorem dX9_caught_87 : decode cX9_caught 87 = .ok (.idiv, 1) := by decide +kernel
theorem dX9_caught_88 : decode cX9_caught 88 = .ok (.ireturn, 1) := by decide +kernel
theorem dX9_rests_0 : decode cX9_rests 0 = .ok (.aload_n 0, 1) := by decide +kernel
theorem dX9_rests_1 : decode cX9_rests 1 = .ok (.iload_n 1, 1) := by decide +kernel
theorem dX9_rests_2 : decode cX9_rests 2 = .ok (.iload_n 2, 1) := by decide +kernel
theorem dX9_rests_3 : decode cX9_rests 3 = .ok (.invokevirtual 187, 3) := by decide +kernel
theorem dX9_rests_6 : decode cX9_rests 6 = .ok (.ifCond .eq 12, 3) := by decide +kernel
theorem dX9_rests_9 : decode cX9_rests 9 = .ok (.iload_n 3, 1) := by decide +kernel
theorem dX9_rests_10 : decode cX9_rests 10 = .ok (.iconst 0, 1) := by decide +kernel
theorem dX9_rests_11 : decode cX9_rests 11 = .ok (.iconst 1, 1) := by decide +kernel
theorem dX9_rests_12 : decode cX9_rests 12 = .ok (.invokestatic 107, 3) := by decide +kernel
theorem dX9_rests_15 : decode cX9_rests 15 = .ok (.ifCond .ne 5, 3) := by decide +kernel
theorem dX9_rests_18 : decode cX9_rests 18 = .ok (.iconst (-1), 1) := by decide +kernel
theorem dX9_rests_19 : decode cX9_rests 19 = .ok (.ireturn, 1) := by decide +kernel
theorem dX9_rests_20 : decode cX9_rests 20 = .ok (.iconst 0, 1) := by decide +kernel
theorem dX9_rests_21 : decode cX9_rests 21 = .ok (.istore 4, 2) := by decide +kernel
theorem dX9_rests_23 : decode cX9_rests 23 = .ok (.bipush (-4), 2) := by decide +kernel
theorem dX9_rests_25 : decode cX9_rests 25 = .ok (.istore 5, 2) := by decide +kernel
theorem dX9_rests_27 : decode cX9_rests 27 = .ok (.iconst 0, 1) := by decide +kernel
theorem dX9_rests_28 : decode cX9_rests 28 = .ok (.istore 6, 2) := by decide +kernel
theorem dX9_rests_30 : decode cX9_rests 30 = .ok (.iload 6, 2) := by decide +kernel
theorem dX9_rests_32 : decode cX9_rests 32 = .ok (.iconst 4, 1) := by decide +kernel
theorem dX9_rests_33 : decode cX9_rests 33 = .ok (.if_icmp .ge 39, 3) := by decide +kernel
theorem dX9_rests_36 : decode cX9_rests 36 = .ok (.aload_n 0, 1) := by decide +kernel
theorem dX9_rests_37 : decode cX9_rests 37 = .ok (.iload_n 1, 1) := by decide +kernel
theorem dX9_rests_38 : decode cX9_rests 38 = .ok (.iload_n 2, 1) := by decide +kernel
theorem dX9_rests_39 : decode cX9_rests 39 = .ok (.iload 6, 2) := by decide +kernel
theorem dX9_rests_41 : decode cX9_rests 41 = .ok (.invokevirtual 231, 3) := by decide +kernel
theorem dX9_rests_44 : decode cX9_rests 44 = .ok (.ifCond .eq 22, 3) := by decide +kernel
theorem dX9_rests_47 : decode cX9_rests 47 = .ok (.iinc 4 1, 3) := by decide +kernel
theorem dX9_rests_50 : decode cX9_rests 50 = .ok (.iload 5, 2) := by decide +kernel
theorem dX9_rests_52 : decode cX9_rests 52 = .ok (.bipush (-4), 2) := by decide +kernel
theorem dX9_rests_54 : decode cX9_rests 54 = .ok (.if_icmp .ne 8, 3) := by decide +kernel
theorem dX9_rests_57 : decode cX9_rests 57 = .ok (.iload 6, 2) := by decide +kernel
theorem dX9_rests_59 : decode cX9_rests 59 = .ok (.goto 5, 3) := by decide +kernel
theorem dX9_rests_62 : decode cX9_rests 62 = .ok (.iload 5, 2) := by decide +kernel
theorem dX9_rests_64 : decode cX9_rests 64 = .ok (.istore 5, 2) := by decide +kernel
theorem dX9_rests_66 : decode cX9_rests 66 = .ok (.iinc 6 1, 3) := by decide +kernel
theorem dX9_rests_69 : decode cX9_rests 69 = .ok (.goto (-39), 3) := by decide +kernel
theorem dX9_rests_72 : decode cX9_rests 72 = .ok (.iload_n 3, 1) := by decide +kernel
theorem dX9_rests_73 : decode cX9_rests 73 = .ok (.ifCond .ne 8, 3) := by decide +kernel
theorem dX9_rests_76 : decode cX9_rests 76 = .ok (.iload 4, 2) := by decide +kernel
theorem dX9_rests_78 : decode cX9_rests 78 = .ok (.goto 5, 3) := by decide +kernel
theorem dX9_rests_81 : decode cX9_rests 81 = .ok (.iload 5, 2) := by decide +kernel
theorem dX9_rests_83 : decode cX9_rests 83 = .ok (.ireturn, 1) := by decide +kernel
theorem dX9_seen_0 : decode cX9_seen 0 = .ok (.aload_n 0, 1) := by decide +kernel
theorem dX9_seen_1 : decode cX9_seen 1 = .ok (.iload_n 1, 1) := by decide +kernel
theorem dX9_seen_2 : decode cX9_seen 2 = .ok (.iload_n 2, 1) := by decide +kernel
theorem dX9_seen_3 : decode cX9_seen 3 = .ok (.invokevirtual 187, 3) := by decide +kernel
theorem dX9_seen_6 : decode cX9_seen 6 = .ok (.ifCond .ne 5, 3) := by decide +kernel
theorem dX9_seen_9 : decode cX9_seen 9 = .ok (.iconst (-1), 1) := by decide +kernel
theorem dX9_seen_10 : decode cX9_seen 10 = .ok (.ireturn, 1) := by decide +kernel
theorem dX9_seen_11 : decode cX9_seen 11 = .ok (.aload_n 0, 1) := by decide +kernel
theorem dX9_seen_12 : decode cX9_seen 12 = .ok (.getfield 32, 3) := by decide +kernel
theorem dX9_seen_15 : decode cX9_seen 15 = .ok (.getfield 127, 3) := by decide +kernel
theorem dX9_seen_18 : decode cX9_seen 18 = .ok (.iload_n 1, 1) := by decide +kernel
theorem dX9_seen_19 : decode cX9_seen 19 = .ok (.iaload, 1) := by decide +kernel
theorem dX9_seen_20 : decode cX9_seen 20 = .ok (.aload_n 0, 1) := by decide +kernel
theorem dX9_seen_21 : decode cX9_seen 21 = .ok (.getfield 32, 3) := by decide +kernel
theorem dX9_seen_24 : decode cX9_seen 24 = .ok (.getfield 127, 3) := by decide +kernel
theorem dX9_seen_27 : decode cX9_seen 27 = .ok (.iload_n 2, 1) := by decide +kernel
theorem dX9_seen_28 : decode cX9_seen 28 = .ok (.iaload, 1) := by decide +kernel
theorem dX9_seen_29 : decode cX9_seen 29 = .ok (.if_icmp .ne 6, 3) := by decide +kernel
theorem dX9_seen_32 : decode cX9_seen 32 = .ok (.bipush (-2), 2) := by decide +kernel
theorem dX9_seen_34 : decode cX9_seen 34 = .ok (.ireturn, 1) := by decide +kernel
theorem dX9_seen_35 : decode cX9_seen 35 = .ok (.aload_n 0, 1) := by decide +kernel
theorem dX9_seen_36 : decode cX9_seen 36 = .ok (.getfield 73, 3) := by decide +kernel
theorem dX9_seen_39 : decode cX9_seen 39 = .ok (.iload_n 1, 1) := by decide +kernel
theorem dX9_seen_40 : decode cX9_seen 40 = .ok (.iload_n 2, 1) := by decide +kernel
theorem dX9_seen_41 : decode cX9_seen 41 = .ok (.invokevirtual 234, 3) := by decide +kernel
theorem dX9_seen_44 : decode cX9_seen 44 = .ok (.ifCond .eq 13, 3) := by decide +kernel
theorem dX9_seen_47 : decode cX9_seen 47 = .ok (.aload_n 0, 1) := by decide +kernel
theorem dX9_seen_48 : decode cX9_seen 48 = .ok (.getfield 73, 3) := by decide +kernel
theorem dX9_seen_51 : decode cX9_seen 51 = .ok (.getfield 236, 3) := by decide +kernel
theorem dX9_seen_54 : decode cX9_seen 54 = .ok (.goto 5, 3) := by decide +kernel
theorem dX9_seen_57 : decode cX9_seen 57 = .ok (.bipush (-3), 2) := by decide +kernel
theorem dX9_seen_59 : decode cX9_seen 59 = .ok (.ireturn, 1) := by decide +kernel
theorem dX9_forget_0 : decode cX9_forget 0 = .ok (.aload_n 0, 1) := by decide +kernel
theorem dX9_forget_1 : decode cX9_forget 1 = .ok (.getfield 73, 3) := by decide +kernel
theorem dX9_forget_4 : decode cX9_forget 4 = .ok (.invokevirtual 237, 3) := by decide +kernel
theorem dX9_forget_7 : decode cX9_forget 7 = .ok (.ireturn, 1) := by decide +kernel
theorem dX9_fits_0 : decode cX9_fits 0 = .ok (.iconst 0, 1) := by decide +kernel
theorem dX9_fits_1 : decode cX9_fits 1 = .ok (.istore_n 1, 1) := by decide +kernel
theorem dX9_fits_2 : decode cX9_fits 2 = .ok (.iconst 0, 1) := by decide +kernel
theorem dX9_fits_3 : decode cX9_fits 3 = .ok (.istore_n 2, 1) := by decide +kernel
theorem dX9_fits_4 : decode cX9_fits 4 = .ok (.iload_n 2, 1) := by decide +kernel
theorem dX9_fits_5 : decode cX9_fits 5 = .ok (.iconst 4, 1) := by decide +kernel
theorem dX9_fits_6 : decode cX9_fits 6 = .ok (.if_icmp .ge 23, 3) := by decide +kernel
theorem dX9_fits_9 : decode cX9_fits 9 = .ok (.aload_n 0, 1) := by decide +kernel
theorem dX9_fits_10 : decode cX9_fits 10 = .ok (.iload_n 2, 1) := by decide +kernel
theorem dX9_fits_11 : decode cX9_fits 11 = .ok (.invokevirtual 238, 3) := by decide +kernel
theorem dX9_fits_14 : decode cX9_fits 14 = .ok (.ifCond .eq 9, 3) := by decide +kernel
theorem dX9_fits_17 : decode cX9_fits 17 = .ok (.iload_n 1, 1) := by decide +kernel
theorem dX9_fits_18 : decode cX9_fits 18 = .ok (.iconst 1, 1) := by decide +kernel
theorem dX9_fits_19 : decode cX9_fits 19 = .ok (.iload_n 2, 1) := by decide +kernel
theorem dX9_fits_20 : decode cX9_fits 20 = .ok (.ishl, 1) := by decide +kernel
theorem dX9_fits_21 : decode cX9_fits 21 = .ok (.ior, 1) := by decide +kernel
theorem dX9_fits_22 : decode cX9_fits 22 = .ok (.istore_n 1, 1) := by decide +kernel
theorem dX9_fits_23 : decode cX9_fits 23 = .ok (.iinc 2 1, 3) := by decide +kernel
theorem dX9_fits_26 : decode cX9_fits 26 = .ok (.goto (-22), 3) := by decide +kernel
theorem dX9_fits_29 : decode cX9_fits 29 = .ok (.iload_n 1, 1) := by decide +kernel
theorem dX9_fits_30 : decode cX9_fits 30 = .ok (.ireturn, 1) := by decide +kernel
theorem dX9_starts_0 : decode cX9_starts 0 = .ok (.iload_n 1, 1) := by decide +kernel
theorem dX9_starts_1 : decode cX9_starts 1 = .ok (.invokestatic 142, 3) := by decide +kernel
theorem dX9_starts_4 : decode cX9_starts 4 = .ok (.ifCond .eq 11, 3) := by decide +kernel
theorem dX9_starts_7 : decode cX9_starts 7 = .ok (.aload_n 0, 1) := by decide +kernel
theorem dX9_starts_8 : decode cX9_starts 8 = .ok (.iload_n 2, 1) := by decide +kernel
theorem dX9_starts_9 : decode cX9_starts 9 = .ok (.invokevirtual 120, 3) := by decide +kernel
theorem dX9_starts_12 : decode cX9_starts 12 = .ok (.ifCond .ne 5, 3) := by decide +kernel
theorem dX9_starts_15 : decode cX9_starts 15 = .ok (.iconst (-1), 1) := by decide +kernel
theorem dX9_starts_16 : decode cX9_starts 16 = .ok (.ireturn, 1) := by decide +kernel
theorem dX9_starts_17 : decode cX9_starts 17 = .ok (.aload_n 0, 1) := by decide +kernel
theorem dX9_starts_18 : decode cX9_starts 18 = .ok (.getfield 59, 3) := by decide +kernel
theorem dX9_starts_21 : decode cX9_starts 21 = .ok (.aload_n 0, 1) := by decide +kernel
theorem dX9_starts_22 : decode cX9_starts 22 = .ok (.getfield 38, 3) := by decide +kernel
theorem dX9_starts_25 : decode cX9_starts 25 = .ok (.iload_n 1, 1) := by decide +kernel
theorem dX9_starts_26 : decode cX9_starts 26 = .ok (.bipush 120, 2) := by decide +kernel
theorem dX9_starts_28 : decode cX9_starts 28 = .ok (.invokevirtual 145, 3) := by decide +kernel
theorem dX9_starts_31 : decode cX9_starts 31 = .ok (.pop, 1) := by decide +kernel
theorem dX9_starts_32 : decode cX9_starts 32 = .ok (.aload_n 0, 1) := by decide +kernel
theorem dX9_starts_33 : decode cX9_starts 33 = .ok (.getfield 59, 3) := by decide +kernel
theorem dX9_starts_36 : decode cX9_starts 36 = .ok (.getfield 241, 3) := by decide +kernel
theorem dX9_starts_39 : decode cX9_starts 39 = .ok (.iload_n 2, 1) := by decide +kernel
theorem dX9_starts_40 : decode cX9_starts 40 = .ok (.iaload, 1) := by decide +kernel
theorem dX9_starts_41 : decode cX9_starts 41 = .ok (.ireturn, 1) := by decide +kernel
theorem dX9_bears_0 : decode cX9_bears 0 = .ok (.iload_n 1, 1) := by decide +kernel
theorem dX9_bears_1 : decode cX9_bears 1 = .ok (.invokestatic 142, 3) := by decide +kernel
theorem dX9_bears_4 : decode cX9_bears 4 = .ok (.ifCond .eq 13, 3) := by decide +kernel
theorem dX9_bears_7 : decode cX9_bears 7 = .ok (.iload_n 2, 1) := by decide +kernel
theorem dX9_bears_8 : decode cX9_bears 8 = .ok (.iconst 0, 1) := by decide +kernel
theorem dX9_bears_9 : decode cX9_bears 9 = .ok (.bipush 9, 2) := by decide +kernel
theorem dX9_bears_11 : decode cX9_bears 11 = .ok (.invokestatic 107, 3) := by decide +kernel
theorem dX9_bears_14 : decode cX9_bears 14 = .ok (.ifCond .ne 5, 3) := by decide +kernel
theorem dX9_bears_17 : decode cX9_bears 17 = .ok (.iconst (-1), 1) := by decide +kernel
theorem dX9_bears_18 : decode cX9_bears 18 = .ok (.ireturn, 1) := by decide +kernel
theorem dX9_bears_19 : decode cX9_bears 19 = .ok (.aload_n 0, 1) := by decide +kernel
theorem dX9_bears_20 : decode cX9_bears 20 = .ok (.getfield 59, 3) := by decide +kernel
theorem dX9_bears_23 : decode cX9_bears 23 = .ok (.aload_n 0, 1) := by decide +kernel
theorem dX9_bears_24 : decode cX9_bears 24 = .ok (.getfield 38, 3) := by decide +kernel
theorem dX9_bears_27 : decode cX9_bears 27 = .ok (.iload_n 1, 1) := by decide +kernel
theorem dX9_bears_28 : decode cX9_bears 28 = .ok (.bipush 120, 2) := by decide +kernel
theorem dX9_bears_30 : decode cX9_bears 30 = .ok (.invokevirtual 145, 3) := by decide +kernel
theorem dX9_bears_33 : decode cX9_bears 33 = .ok (.pop, 1) := by decide +kernel
theorem dX9_bears_34 : decode cX9_bears 34 = .ok (.iconst 0, 1) := by decide +kernel
theorem dX9_bears_35 : decode cX9_bears 35 = .ok (.istore_n 3, 1) := by decide +kernel
theorem dX9_bears_36 : decode cX9_bears 36 = .ok (.iconst 0, 1) := by decide +kernel
theorem dX9_bears_37 : decode cX9_bears 37 = .ok (.istore 4, 2) := by decide +kernel
theorem dX9_bears_39 : decode cX9_bears 39 = .ok (.iload 4, 2) := by decide +kernel
theorem dX9_bears_41 : decode cX9_bears 41 = .ok (.aload_n 0, 1) := by decide +kernel
theorem dX9_bears_42 : decode cX9_bears 42 = .ok (.getfield 32, 3) := by decide +kernel
theorem dX9_bears_45 : decode cX9_bears 45 = .ok (.getfield 117, 3) := by decide +kernel
theorem dX9_bears_48 : decode cX9_bears 48 = .ok (.if_icmp .ge 30, 3) := by decide +kernel
theorem dX9_bears_51 : decode cX9_bears 51 = .ok (.aload_n 0, 1) := by decide +kernel
theorem dX9_bears_52 : decode cX9_bears 52 = .ok (.getfield 59, 3) := by decide +kernel
theorem dX9_bears_55 : decode cX9_bears 55 = .ok (.getfield 241, 3) := by decide +kernel
theorem dX9_bears_58 : decode cX9_bears 58 = .ok (.iload 4, 2) := by decide +kernel
theorem dX9_bears_60 : decode cX9_bears 60 = .ok (.iaload, 1) := by decide +kernel
theorem dX9_bears_61 : decode cX9_bears 61 = .ok (.iload_n 2, 1) := by decide +kernel
theorem dX9_bears_62 : decode cX9_bears 62 = .ok (.if_icmp .gt 10, 3) := by decide +kernel
theorem dX9_bears_65 : decode cX9_bears 65 = .ok (.iload_n 3, 1) := by decide +kernel
theorem dX9_bears_66 : decode cX9_bears 66 = .ok (.iconst 1, 1) := by decide +kernel
theorem dX9_bears_67 : decode cX9_bears 67 = .ok (.iload 4, 2) := by decide +kernel
theorem dX9_bears_69 : decode cX9_bears 69 = .ok (.ishl, 1) := by decide +kernel
theorem dX9_bears_70 : decode cX9_bears 70 = .ok (.ior, 1) := by decide +kernel
theorem dX9_bears_71 : decode cX9_bears 71 = .ok (.istore_n 3, 1) := by decide +kernel
theorem dX9_bears_72 : decode cX9_bears 72 = .ok (.iinc 4 1, 3) := by decide +kernel
theorem dX9_bears_75 : decode cX9_bears 75 = .ok (.goto (-36), 3) := by decide +kernel
theorem dX9_bears_78 : decode cX9_bears 78 = .ok (.iload_n 3, 1) := by decide +kernel
theorem dX9_bears_79 : decode cX9_bears 79 = .ok (.ireturn, 1) := by decide +kernel
theorem dX9_day_0 : decode cX9_day 0 = .ok (.iload_n 1, 1) := by decide +kernel
theorem dX9_day_1 : decode cX9_day 1 = .ok (.invokestatic 142, 3) := by decide +kernel
theorem dX9_day_4 : decode cX9_day 4 = .ok (.ifCond .eq 23, 3) := by decide +kernel
theorem dX9_day_7 : decode cX9_day 7 = .ok (.iload_n 2, 1) := by decide +kernel
theorem dX9_day_8 : decode cX9_day 8 = .ok (.iconst 0, 1) := by decide +kernel
theorem dX9_day_9 : decode cX9_day 9 = .ok (.sipush 9999, 3) := by decide +kernel
theorem dX9_day_12 : decode cX9_day 12 = .ok (.invokestatic 107, 3) := by decide +kernel
theorem dX9_day_15 : decode cX9_day 15 = .ok (.ifCond .eq 12, 3) := by decide +kernel
theorem dX9_day_18 : decode cX9_day 18 = .ok (.iload_n 3, 1) := by decide +kernel
theorem dX9_day_19 : decode cX9_day 19 = .ok (.iconst 0, 1) := by decide +kernel
theorem dX9_day_20 : decode cX9_day 20 = .ok (.iconst 1, 1) := by decide +kernel
theorem dX9_day_21 : decode cX9_day 21 = .ok (.invokestatic 107, 3) := by decide +kernel
theorem dX9_day_24 : decode cX9_day 24 = .ok (.ifCond .ne 5, 3) := by decide +kernel
theorem dX9_day_27 : decode cX9_day 27 = .ok (.iconst (-1), 1) := by decide +kernel
theorem dX9_day_28 : decode cX9_day 28 = .ok (.ireturn, 1) := by decide +kernel
theorem dX9_day_29 : decode cX9_day 29 = .ok (.aload_n 0, 1) := by decide +kernel
theorem dX9_day_30 : decode cX9_day 30 = .ok (.getfield 42, 3) := by decide +kernel
theorem dX9_day_33 : decode cX9_day 33 = .ok (.iload_n 2, 1) := by decide +kernel
theorem dX9_day_34 : decode cX9_day 34 = .ok (.invokevirtual 244, 3) := by decide +kernel
theorem dX9_day_37 : decode cX9_day 37 = .ok (.aload_n 0, 1) := by decide +kernel
theorem dX9_day_38 : decode cX9_day 38 = .ok (.getfield 59, 3) := by decide +kernel
theorem dX9_day_41 : decode cX9_day 41 = .ok (.aload_n 0, 1) := by decide +kernel
theorem dX9_day_42 : decode cX9_day 42 = .ok (.getfield 42, 3) := by decide +kernel
theorem dX9_day_45 : decode cX9_day 45 = .ok (.iload_n 1, 1) := by decide +kernel
theorem dX9_day_46 : decode cX9_day 46 = .ok (.bipush 120, 2) := by decide +kernel
theorem dX9_day_48 : decode cX9_day 48 = .ok (.invokevirtual 145, 3) := by decide +kernel
theorem dX9_day_51 : decode cX9_day 51 = .ok (.istore 4, 2) := by decide +kernel
theorem dX9_day_53 : decode cX9_day 53 = .ok (.iload_n 3, 1) := by decide +kernel
theorem dX9_day_54 : decode cX9_day 54 = .ok (.ifCond .ne 8, 3) := by decide +kernel
theorem dX9_day_57 : decode cX9_day 57 = .ok (.iload 4, 2) := by decide +kernel
theorem dX9_day_59 : decode cX9_day 59 = .ok (.goto 10, 3) := by decide +kernel
theorem dX9_day_62 : decode cX9_day 62 = .ok (.aload_n 0, 1) := by decide +kernel
theorem dX9_day_63 : decode cX9_day 63 = .ok (.getfield 59, 3) := by decide +kernel
theorem dX9_day_66 : decode cX9_day 66 = .ok (.getfield 161, 3) := by decide +kernel
theorem dX9_day_69 : decode cX9_day 69 = .ok (.ireturn, 1) := by decide +kernel
theorem dX9_keep_0 : decode cX9_keep 0 = .ok (.aload_n 0, 1) := by decide +kernel
theorem dX9_keep_1 : decode cX9_keep 1 = .ok (.getfield 80, 3) := by decide +kernel
theorem dX9_keep_4 : decode cX9_keep 4 = .ok (.aload_n 0, 1) := by decide +kernel
theorem dX9_keep_5 : decode cX9_keep 5 = .ok (.getfield 38, 3) := by decide +kernel
theorem dX9_keep_8 : decode cX9_keep 8 = .ok (.invokevirtual 248, 3) := by decide +kernel
theorem dX9_keep_11 : decode cX9_keep 11 = .ok (.ifCond .eq 13, 3) := by decide +kernel
theorem dX9_keep_14 : decode cX9_keep 14 = .ok (.aload_n 0, 1) := by decide +kernel
theorem dX9_keep_15 : decode cX9_keep 15 = .ok (.getfield 80, 3) := by decide +kernel
theorem dX9_keep_18 : decode cX9_keep 18 = .ok (.getfield 250, 3) := by decide +kernel
theorem dX9_keep_21 : decode cX9_keep 21 = .ok (.goto 5, 3) := by decide +kernel
theorem dX9_keep_24 : decode cX9_keep 24 = .ok (.bipush (-3), 2) := by decide +kernel
theorem dX9_keep_26 : decode cX9_keep 26 = .ok (.ireturn, 1) := by decide +kernel
theorem dX9_back_0 : decode cX9_back 0 = .ok (.aload_n 0, 1) := by decide +kernel
theorem dX9_back_1 : decode cX9_back 1 = .ok (.getfield 80, 3) := by decide +kernel
theorem dX9_back_4 : decode cX9_back 4 = .ok (.aload_n 0, 1) := by decide +kernel
theorem dX9_back_5 : decode cX9_back 5 = .ok (.getfield 38, 3) := by decide +kernel
theorem dX9_back_8 : decode cX9_back 8 = .ok (.invokevirtual 251, 3) := by decide +kernel
theorem dX9_back_11 : decode cX9_back 11 = .ok (.ifCond .ne 6, 3) := by decide +kernel
theorem dX9_back_14 : decode cX9_back 14 = .ok (.bipush (-2), 2) := by decide +kernel
theorem dX9_back_16 : decode cX9_back 16 = .ok (.ireturn, 1) := by decide +kernel
theorem dX9_back_17 : decode cX9_back 17 = .ok (.aload_n 0, 1) := by decide +kernel
theorem dX9_back_18 : decode cX9_back 18 = .ok (.getfield 66, 3) := by decide +kernel
theorem dX9_back_21 : decode cX9_back 21 = .ok (.iconst 0, 1) := by decide +kernel
theorem dX9_back_22 : decode cX9_back 22 = .ok (.putfield 184, 3) := by decide +kernel
theorem dX9_back_25 : decode cX9_back 25 = .ok (.aload_n 0, 1) := by decide +kernel
theorem dX9_back_26 : decode cX9_back 26 = .ok (.getfield 80, 3) := by decide +kernel
theorem dX9_back_29 : decode cX9_back 29 = .ok (.getfield 250, 3) := by decide +kernel
theorem dX9_back_32 : decode cX9_back 32 = .ok (.ireturn, 1) := by decide +kernel
theorem dX9_count_0 : decode cX9_count 0 = .ok (.iload_n 1, 1) := by decide +kernel
theorem dX9_count_1 : decode cX9_count 1 = .ok (.tableswitch 87 0 5 #[39, 47, 55, 63, 71, 79], 39) := by decide +kernel
theorem dX9_count_40 : decode cX9_count 40 = .ok (.aload_n 0, 1) := by decide +kernel
theorem dX9_count_41 : decode cX9_count 41 = .ok (.getfield 32, 3) := by decide +kernel
theorem dX9_count_44 : decode cX9_count 44 = .ok (.getfield 117, 3) := by decide +kernel
theorem dX9_count_47 : decode cX9_count 47 = .ok (.ireturn, 1) := by decide +kernel
theorem dX9_count_48 : decode cX9_count 48 = .ok (.aload_n 0, 1) := by decide +kernel
theorem dX9_count_49 : decode cX9_count 49 = .ok (.getfield 32, 3) := by decide +kernel
theorem dX9_count_52 : decode cX9_count 52 = .ok (.getfield 254, 3) := by decide +kernel
theorem dX9_count_55 : decode cX9_count 55 = .ok (.ireturn, 1) := by decide +kernel
theorem dX9_count_56 : decode cX9_count 56 = .ok (.aload_n 0, 1) := by decide +kernel
theorem dX9_count_57 : decode cX9_count 57 = .ok (.getfield 73, 3) := by decide +kernel
theorem dX9_count_60 : decode cX9_count 60 = .ok (.getfield 236, 3) := by decide +kernel
theorem dX9_count_63 : decode cX9_count 63 = .ok (.ireturn, 1) := by decide +kernel
theorem dX9_count_64 : decode cX9_count 64 = .ok (.aload_n 0, 1) := by decide +kernel
theorem dX9_count_65 : decode cX9_count 65 = .ok (.getfield 66, 3) := by decide +kernel
theorem dX9_count_68 : decode cX9_count 68 = .ok (.getfield 184, 3) := by decide +kernel
theorem dX9_count_71 : decode cX9_count 71 = .ok (.ireturn, 1) := by decide +kernel
theorem dX9_count_72 : decode cX9_count 72 = .ok (.aload_n 0, 1) := by decide +kernel
theorem dX9_count_73 : decode cX9_count 73 = .ok (.getfield 80, 3) := by decide +kernel
theorem dX9_count_76 : decode cX9_count 76 = .ok (.getfield 250, 3) := by decide +kernel
theorem dX9_count_79 : decode cX9_count 79 = .ok (.ireturn, 1) := by decide +kernel
theorem dX9_count_80 : decode cX9_count 80 = .ok (.aload_n 0, 1) := by decide +kernel
theorem dX9_count_81 : decode cX9_count 81 = .ok (.getfield 10, 3) := by decide +kernel
theorem dX9_count_84 : decode cX9_count 84 = .ok (.getfield 111, 3) := by decide +kernel
theorem dX9_count_87 : decode cX9_count 87 = .ok (.ireturn, 1) := by decide +kernel
theorem dX9_count_88 : decode cX9_count 88 = .ok (.iconst (-1), 1) := by decide +kernel
theorem dX9_count_89 : decode cX9_count 89 = .ok (.ireturn, 1) := by decide +kernel
theorem dX9_isWithin_0 : decode cX9_isWithin 0 = .ok (.iload_n 0, 1) := by decide +kernel
theorem dX9_isWithin_1 : decode cX9_isWithin 1 = .ok (.iload_n 1, 1) := by decide +kernel
theorem dX9_isWithin_2 : decode cX9_isWithin 2 = .ok (.if_icmp .lt 12, 3) := by decide +kernel
theorem dX9_isWithin_5 : decode cX9_isWithin 5 = .ok (.iload_n 0, 1) := by decide +kernel
theorem dX9_isWithin_6 : decode cX9_isWithin 6 = .ok (.iload_n 2, 1) := by decide +kernel
theorem dX9_isWithin_7 : decode cX9_isWithin 7 = .ok (.if_icmp .gt 7, 3) := by decide +kernel
theorem dX9_isWithin_10 : decode cX9_isWithin 10 = .ok (.iconst 1, 1) := by decide +kernel
theorem dX9_isWithin_11 : decode cX9_isWithin 11 = .ok (.goto 4, 3) := by decide +kernel
theorem dX9_isWithin_14 : decode cX9_isWithin 14 = .ok (.iconst 0, 1) := by decide +kernel
theorem dX9_isWithin_15 : decode cX9_isWithin 15 = .ok (.ireturn, 1) := by decide +kernel
theorem dX9_isRule_0 : decode cX9_isRule 0 = .ok (.iload_n 0, 1) := by decide +kernel
theorem dX9_isRule_1 : decode cX9_isRule 1 = .ok (.iconst 0, 1) := by decide +kernel
theorem dX9_isRule_2 : decode cX9_isRule 2 = .ok (.iconst 3, 1) := by decide +kernel
theorem dX9_isRule_3 : decode cX9_isRule 3 = .ok (.invokestatic 107, 3) := by decide +kernel
theorem dX9_isRule_6 : decode cX9_isRule 6 = .ok (.ireturn, 1) := by decide +kernel
theorem dX9_isBoat_0 : decode cX9_isBoat 0 = .ok (.iload_n 1, 1) := by decide +kernel
theorem dX9_isBoat_1 : decode cX9_isBoat 1 = .ok (.iconst 0, 1) := by decide +kernel
theorem dX9_isBoat_2 : decode cX9_isBoat 2 = .ok (.aload_n 0, 1) := by decide +kernel
theorem dX9_isBoat_3 : decode cX9_isBoat 3 = .ok (.getfield 32, 3) := by decide +kernel
theorem dX9_isBoat_6 : decode cX9_isBoat 6 = .ok (.getfield 117, 3) := by decide +kernel
theorem dX9_isBoat_9 : decode cX9_isBoat 9 = .ok (.iconst 1, 1) := by decide +kernel
theorem dX9_isBoat_10 : decode cX9_isBoat 10 = .ok (.isub, 1) := by decide +kernel
theorem dX9_isBoat_11 : decode cX9_isBoat 11 = .ok (.invokestatic 107, 3) := by decide +kernel
theorem dX9_isBoat_14 : decode cX9_isBoat 14 = .ok (.ireturn, 1) := by decide +kernel
theorem dX9_areTwo_0 : decode cX9_areTwo 0 = .ok (.aload_n 0, 1) := by decide +kernel
theorem dX9_areTwo_1 : decode cX9_areTwo 1 = .ok (.iload_n 1, 1) := by decide +kernel
theorem dX9_areTwo_2 : decode cX9_areTwo 2 = .ok (.invokevirtual 120, 3) := by decide +kernel
theorem dX9_areTwo_5 : decode cX9_areTwo 5 = .ok (.ifCond .eq 20, 3) := by decide +kernel
theorem dX9_areTwo_8 : decode cX9_areTwo 8 = .ok (.aload_n 0, 1) := by decide +kernel
theorem dX9_areTwo_9 : decode cX9_areTwo 9 = .ok (.iload_n 2, 1) := by decide +kernel
theorem dX9_areTwo_10 : decode cX9_areTwo 10 = .ok (.invokevirtual 120, 3) := by decide +kernel
theorem dX9_areTwo_13 : decode cX9_areTwo 13 = .ok (.ifCond .eq 12, 3) := by decide +kernel
theorem dX9_areTwo_16 : decode cX9_areTwo 16 = .ok (.iload_n 1, 1) := by decide +kernel
theorem dX9_areTwo_17 : decode cX9_areTwo 17 = .ok (.iload_n 2, 1) := by decide +kernel
theorem dX9_areTwo_18 : decode cX9_areTwo 18 = .ok (.if_icmp .eq 7, 3) := by decide +kernel
theorem dX9_areTwo_21 : decode cX9_areTwo 21 = .ok (.iconst 1, 1) := by decide +kernel
theorem dX9_areTwo_22 : decode cX9_areTwo 22 = .ok (.goto 4, 3) := by decide +kernel
theorem dX9_areTwo_25 : decode cX9_areTwo 25 = .ok (.iconst 0, 1) := by decide +kernel
theorem dX9_areTwo_26 : decode cX9_areTwo 26 = .ok (.ireturn, 1) := by decide +kernel
theorem dX9_layText_0 : decode cX9_layText 0 = .ok (.aload_n 0, 1) := by decide +kernel
theorem dX9_layText_1 : decode cX9_layText 1 = .ok (.getfield 28, 3) := by decide +kernel
theorem dX9_layText_4 : decode cX9_layText 4 = .ok (.invokevirtual 114, 3) := by decide +kernel
theorem dX9_layText_7 : decode cX9_layText 7 = .ok (.bipush (-4), 2) := by decide +kernel
theorem dX9_layText_9 : decode cX9_layText 9 = .ok (.if_icmp .ne 13, 3) := by decide +kernel
theorem dX9_layText_12 : decode cX9_layText 12 = .ok (.aload_n 0, 1) := by decide +kernel
theorem dX9_layText_13 : decode cX9_layText 13 = .ok (.getfield 19, 3) := by decide +kernel
theorem dX9_layText_16 : decode cX9_layText 16 = .ok (.getfield 117, 3) := by decide +kernel
theorem dX9_layText_19 : decode cX9_layText 19 = .ok (.ifCond .ne 5, 3) := by decide +kernel
theorem dX9_layText_22 : decode cX9_layText 22 = .ok (.iconst 0, 1) := by decide +kernel
theorem dX9_layText_23 : decode cX9_layText 23 = .ok (.ireturn, 1) := by decide +kernel
theorem dX9_layText_24 : decode cX9_layText 24 = .ok (.aload_n 0, 1) := by decide +kernel
theorem dX9_layText_25 : decode cX9_layText 25 = .ok (.getfield 32, 3) := by decide +kernel
theorem dX9_layText_28 : decode cX9_layText 28 = .ok (.aload_n 0, 1) := by decide +kernel
theorem dX9_layText_29 : decode cX9_layText 29 = .ok (.getfield 19, 3) := by decide +kernel
theorem dX9_layText_32 : decode cX9_layText 32 = .ok (.invokevirtual 257, 3) := by decide +kernel
theorem dX9_layText_35 : decode cX9_layText 35 = .ok (.aload_n 0, 1) := by decide +kernel
theorem dX9_layText_36 : decode cX9_layText 36 = .ok (.getfield 38, 3) := by decide +kernel
theorem dX9_layText_39 : decode cX9_layText 39 = .ok (.aload_n 0, 1) := by decide +kernel
theorem dX9_layText_40 : decode cX9_layText 40 = .ok (.getfield 32, 3) := by decide +kernel
theorem dX9_layText_43 : decode cX9_layText 43 = .ok (.invokevirtual 259, 3) := by decide +kernel
theorem dX9_layText_46 : decode cX9_layText 46 = .ok (.aload_n 0, 1) := by decide +kernel
theorem dX9_layText_47 : decode cX9_layText 47 = .ok (.getfield 66, 3) := by decide +kernel
theorem dX9_layText_50 : decode cX9_layText 50 = .ok (.iconst 0, 1) := by decide +kernel
theorem dX9_layText_51 : decode cX9_layText 51 = .ok (.putfield 184, 3) := by decide +kernel
theorem dX9_layText_54 : decode cX9_layText 54 = .ok (.aload_n 0, 1) := by decide +kernel
theorem dX9_layText_55 : decode cX9_layText 55 = .ok (.getfield 73, 3) := by decide +kernel
theorem dX9_layText_58 : decode cX9_layText 58 = .ok (.invokevirtual 237, 3) := by decide +kernel
theorem dX9_layText_61 : decode cX9_layText 61 = .ok (.pop, 1) := by decide +kernel
theorem dX9_layText_62 : decode cX9_layText 62 = .ok (.aload_n 0, 1) := by decide +kernel
theorem dX9_layText_63 : decode cX9_layText 63 = .ok (.getfield 80, 3) := by decide +kernel
theorem dX9_layText_66 : decode cX9_layText 66 = .ok (.iconst 0, 1) := by decide +kernel
theorem dX9_layText_67 : decode cX9_layText 67 = .ok (.putfield 250, 3) := by decide +kernel
theorem dX9_layText_70 : decode cX9_layText 70 = .ok (.iconst 1, 1) := by decide +kernel
theorem dX9_layText_71 : decode cX9_layText 71 = .ok (.ireturn, 1) := by decide +kernel
theorem dX9_leastRule_0 : decode cX9_leastRule 0 = .ok (.iconst 0, 1) := by decide +kernel
theorem dX9_leastRule_1 : decode cX9_leastRule 1 = .ok (.istore_n 1, 1) := by decide +kernel
theorem dX9_leastRule_2 : decode cX9_leastRule 2 = .ok (.ldc 204, 2) := by decide +kernel
theorem dX9_leastRule_4 : decode cX9_leastRule 4 = .ok (.istore_n 2, 1) := by decide +kernel
theorem dX9_leastRule_5 : decode cX9_leastRule 5 = .ok (.iconst 0, 1) := by decide +kernel
theorem dX9_leastRule_6 : decode cX9_leastRule 6 = .ok (.istore_n 3, 1) := by decide +kernel
theorem dX9_leastRule_7 : decode cX9_leastRule 7 = .ok (.iload_n 3, 1) := by decide +kernel
theorem dX9_leastRule_8 : decode cX9_leastRule 8 = .ok (.iconst 4, 1) := by decide +kernel
theorem dX9_leastRule_9 : decode cX9_leastRule 9 = .ok (.if_icmp .ge 36, 3) := by decide +kernel
theorem dX9_leastRule_12 : decode cX9_leastRule 12 = .ok (.aload_n 0, 1) := by decide +kernel
theorem dX9_leastRule_13 : decode cX9_leastRule 13 = .ok (.getfield 59, 3) := by decide +kernel
theorem dX9_leastRule_16 : decode cX9_leastRule 16 = .ok (.aload_n 0, 1) := by decide +kernel
theorem dX9_leastRule_17 : decode cX9_leastRule 17 = .ok (.getfield 38, 3) := by decide +kernel
theorem dX9_leastRule_20 : decode cX9_leastRule 20 = .ok (.iload_n 3, 1) := by decide +kernel
theorem dX9_leastRule_21 : decode cX9_leastRule 21 = .ok (.bipush 120, 2) := by decide +kernel
theorem dX9_leastRule_23 : decode cX9_leastRule 23 = .ok (.invokevirtual 145, 3) := by decide +kernel
theorem dX9_leastRule_26 : decode cX9_leastRule 26 = .ok (.istore 4, 2) := by decide +kernel
theorem dX9_leastRule_28 : decode cX9_leastRule 28 = .ok (.iload 4, 2) := by decide +kernel
theorem dX9_leastRule_30 : decode cX9_leastRule 30 = .ok (.iload_n 2, 1) := by decide +kernel
theorem dX9_leastRule_31 : decode cX9_leastRule 31 = .ok (.if_icmp .ge 8, 3) := by decide +kernel
theorem dX9_leastRule_34 : decode cX9_leastRule 34 = .ok (.iload 4, 2) := by decide +kernel
theorem dX9_leastRule_36 : decode cX9_leastRule 36 = .ok (.istore_n 2, 1) := by decide +kernel
theorem dX9_leastRule_37 : decode cX9_leastRule 37 = .ok (.iload_n 3, 1) := by decide +kernel
theorem dX9_leastRule_38 : decode cX9_leastRule 38 = .ok (.istore_n 1, 1) := by decide +kernel
theorem dX9_leastRule_39 : decode cX9_leastRule 39 = .ok (.iinc 3 1, 3) := by decide +kernel
theorem dX9_leastRule_42 : decode cX9_leastRule 42 = .ok (.goto (-35), 3) := by decide +kernel
theorem dX9_leastRule_45 : decode cX9_leastRule 45 = .ok (.iload_n 1, 1) := by decide +kernel
theorem dX9_leastRule_46 : decode cX9_leastRule 46 = .ok (.ireturn, 1) := by decide +kernel
theorem dX9_standExchanged_0 : decode cX9_standExchanged 0 = .ok (.aload_n 0, 1) := by decide +kernel
theorem dX9_standExchanged_1 : decode cX9_standExchanged 1 = .ok (.getfield 42, 3) := by decide +kernel
theorem dX9_standExchanged_4 : decode cX9_standExchanged 4 = .ok (.aload_n 0, 1) := by decide +kernel
theorem dX9_standExchanged_5 : decode cX9_standExchanged 5 = .ok (.getfield 38, 3) := by decide +kernel
theorem dX9_standExchanged_8 : decode cX9_standExchanged 8 = .ok (.invokevirtual 198, 3) := by decide +kernel
theorem dX9_standExchanged_11 : decode cX9_standExchanged 11 = .ok (.aload_n 0, 1) := by decide +kernel
theorem dX9_standExchanged_12 : decode cX9_standExchanged 12 = .ok (.getfield 42, 3) := by decide +kernel
theorem dX9_standExchanged_15 : decode cX9_standExchanged 15 = .ok (.getfield 133, 3) := by decide +kernel
theorem dX9_standExchanged_18 : decode cX9_standExchanged 18 = .ok (.iload_n 2, 1) := by decide +kernel
theorem dX9_standExchanged_19 : decode cX9_standExchanged 19 = .ok (.aload_n 0, 1) := by decide +kernel
theorem dX9_standExchanged_20 : decode cX9_standExchanged 20 = .ok (.getfield 38, 3) := by decide +kernel
theorem dX9_standExchanged_23 : decode cX9_standExchanged 23 = .ok (.getfield 133, 3) := by decide +kernel
theorem dX9_standExchanged_26 : decode cX9_standExchanged 26 = .ok (.iload_n 3, 1) := by decide +kernel
theorem dX9_standExchanged_27 : decode cX9_standExchanged 27 = .ok (.iaload, 1) := by decide +kernel
theorem dX9_standExchanged_28 : decode cX9_standExchanged 28 = .ok (.iastore, 1) := by decide +kernel
theorem dX9_standExchanged_29 : decode cX9_standExchanged 29 = .ok (.aload_n 0, 1) := by decide +kernel
theorem dX9_standExchanged_30 : decode cX9_standExchanged 30 = .ok (.getfield 42, 3) := by decide +kernel
theorem dX9_standExchanged_33 : decode cX9_standExchanged 33 = .ok (.getfield 133, 3) := by decide +kernel
theorem dX9_standExchanged_36 : decode cX9_standExchanged 36 = .ok (.iload_n 3, 1) := by decide +kernel
theorem dX9_standExchanged_37 : decode cX9_standExchanged 37 = .ok (.aload_n 0, 1) := by decide +kernel
theorem dX9_standExchanged_38 : decode cX9_standExchanged 38 = .ok (.getfield 38, 3) := by decide +kernel
theorem dX9_standExchanged_41 : decode cX9_standExchanged 41 = .ok (.getfield 133, 3) := by decide +kernel
theorem dX9_standExchanged_44 : decode cX9_standExchanged 44 = .ok (.iload_n 2, 1) := by decide +kernel
theorem dX9_standExchanged_45 : decode cX9_standExchanged 45 = .ok (.iaload, 1) := by decide +kernel
theorem dX9_standExchanged_46 : decode cX9_standExchanged 46 = .ok (.iastore, 1) := by decide +kernel
theorem dX9_standExchanged_47 : decode cX9_standExchanged 47 = .ok (.aload_n 0, 1) := by decide +kernel
theorem dX9_standExchanged_48 : decode cX9_standExchanged 48 = .ok (.getfield 59, 3) := by decide +kernel
theorem dX9_standExchanged_51 : decode cX9_standExchanged 51 = .ok (.aload_n 0, 1) := by decide +kernel
theorem dX9_standExchanged_52 : decode cX9_standExchanged 52 = .ok (.getfield 42, 3) := by decide +kernel
theorem dX9_standExchanged_55 : decode cX9_standExchanged 55 = .ok (.iload_n 1, 1) := by decide +kernel
theorem dX9_standExchanged_56 : decode cX9_standExchanged 56 = .ok (.bipush 120, 2) := by decide +kernel
theorem dX9_standExchanged_58 : decode cX9_standExchanged 58 = .ok (.invokevirtual 145, 3) := by decide +kernel
theorem dX9_standExchanged_61 : decode cX9_standExchanged 61 = .ok (.ireturn, 1) := by decide +kernel
theorem dX9_minutesToSink_0 : decode cX9_minutesToSink 0 = .ok (.aload_n 0, 1) := by decide +kernel
theorem dX9_minutesToSink_1 : decode cX9_minutesToSink 1 = .ok (.getfield 38, 3) := by decide +kernel
theorem dX9_minutesToSink_4 : decode cX9_minutesToSink 4 = .ok (.getfield 133, 3) := by decide +kernel
theorem dX9_minutesToSink_7 : decode cX9_minutesToSink 7 = .ok (.iload_n 1, 1) := by decide +kernel
theorem dX9_minutesToSink_8 : decode cX9_minutesToSink 8 = .ok (.iaload, 1) := by decide +kernel
theorem dX9_minutesToSink_9 : decode cX9_minutesToSink 9 = .ok (.iconst 1, 1) := by decide +kernel
theorem dX9_minutesToSink_10 : decode cX9_minutesToSink 10 = .ok (.iadd, 1) := by decide +kernel
theorem dX9_minutesToSink_11 : decode cX9_minutesToSink 11 = .ok (.istore_n 2, 1) := by decide +kernel
theorem dX9_minutesToSink_12 : decode cX9_minutesToSink 12 = .ok (.aload_n 0, 1) := by decide +kernel
theorem dX9_minutesToSink_13 : decode cX9_minutesToSink 13 = .ok (.getfield 32, 3) := by decide +kernel
theorem dX9_minutesToSink_16 : decode cX9_minutesToSink 16 = .ok (.getfield 262, 3) := by decide +kernel
theorem dX9_minutesToSink_19 : decode cX9_minutesToSink 19 = .ok (.iconst 1, 1) := by decide +kernel
theorem dX9_minutesToSink_20 : decode cX9_minutesToSink 20 = .ok (.invokestatic 226, 3) := by decide +kernel
theorem dX9_minutesToSink_23 : decode cX9_minutesToSink 23 = .ok (.istore_n 3, 1) := by decide +kernel
theorem dX9_minutesToSink_24 : decode cX9_minutesToSink 24 = .ok (.iload_n 2, 1) := by decide +kernel
theorem dX9_minutesToSink_25 : decode cX9_minutesToSink 25 = .ok (.iload_n 3, 1) := by decide +kernel
theorem dX9_minutesToSink_26 : decode cX9_minutesToSink 26 = .ok (.iadd, 1) := by decide +kernel
theorem dX9_minutesToSink_27 : decode cX9_minutesToSink 27 = .ok (.iconst 1, 1) := by decide +kernel
theorem dX9_minutesToSink_28 : decode cX9_minutesToSink 28 = .ok (.isub, 1) := by decide +kernel
theorem dX9_minutesToSink_29 : decode cX9_minutesToSink 29 = .ok (.iload_n 3, 1) := by decide +kernel
theorem dX9_minutesToSink_30 : decode cX9_minutesToSink 30 = .ok (.idiv, 1) := by decide +kernel
theorem dX9_minutesToSink_31 : decode cX9_minutesToSink 31 = .ok (.ireturn, 1) := by decide +kernel
theorem dX9_waysToSinkLess_0 : decode cX9_waysToSinkLess 0 = .ok (.iconst 0, 1) := by decide +kernel
theorem dX9_waysToSinkLess_1 : decode cX9_waysToSinkLess 1 = .ok (.istore_n 3, 1) := by decide +kernel
theorem dX9_waysToSinkLess_2 : decode cX9_waysToSinkLess 2 = .ok (.iconst 1, 1) := by decide +kernel
theorem dX9_waysToSinkLess_3 : decode cX9_waysToSinkLess 3 = .ok (.istore 4, 2) := by decide +kernel
theorem dX9_waysToSinkLess_5 : decode cX9_waysToSinkLess 5 = .ok (.iconst 0, 1) := by decide +kernel
theorem dX9_waysToSinkLess_6 : decode cX9_waysToSinkLess 6 = .ok (.istore 5, 2) := by decide +kernel
theorem dX9_waysToSinkLess_8 : decode cX9_waysToSinkLess 8 = .ok (.iload 5, 2) := by decide +kernel
theorem dX9_waysToSinkLess_10 : decode cX9_waysToSinkLess 10 = .ok (.iload_n 1, 1) := by decide +kernel
theorem dX9_waysToSinkLess_11 : decode cX9_waysToSinkLess 11 = .ok (.if_icmp .gt 53, 3) := by decide +kernel
theorem dX9_waysToSinkLess_14 : decode cX9_waysToSinkLess 14 = .ok (.iload 5, 2) := by decide +kernel
theorem dX9_waysToSinkLess_16 : decode cX9_waysToSinkLess 16 = .ok (.iload_n 0, 1) := by decide +kernel
theorem dX9_waysToSinkLess_17 : decode cX9_waysToSinkLess 17 = .ok (.if_icmp .ge 47, 3) := by decide +kernel
theorem dX9_waysToSinkLess_20 : decode cX9_waysToSinkLess 20 = .ok (.iload_n 3, 1) := by decide +kernel
theorem dX9_waysToSinkLess_21 : decode cX9_waysToSinkLess 21 = .ok (.iload 4, 2) := by decide +kernel
theorem dX9_waysToSinkLess_23 : decode cX9_waysToSinkLess 23 = .ok (.iload_n 2, 1) := by decide +kernel
theorem dX9_waysToSinkLess_24 : decode cX9_waysToSinkLess 24 = .ok (.iload 5, 2) := by decide +kernel
theorem dX9_waysToSinkLess_26 : decode cX9_waysToSinkLess 26 = .ok (.invokestatic 219, 3) := by decide +kernel
theorem dX9_waysToSinkLess_29 : decode cX9_waysToSinkLess 29 = .ok (.imul, 1) := by decide +kernel
theorem dX9_waysToSinkLess_30 : decode cX9_waysToSinkLess 30 = .ok (.bipush 10, 2) := by decide +kernel
theorem dX9_waysToSinkLess_32 : decode cX9_waysToSinkLess 32 = .ok (.iload_n 2, 1) := by decide +kernel
theorem dX9_waysToSinkLess_33 : decode cX9_waysToSinkLess 33 = .ok (.isub, 1) := by decide +kernel
theorem dX9_waysToSinkLess_34 : decode cX9_waysToSinkLess 34 = .ok (.iload_n 1, 1) := by decide +kernel
theorem dX9_waysToSinkLess_35 : decode cX9_waysToSinkLess 35 = .ok (.iload 5, 2) := by decide +kernel
theorem dX9_waysToSinkLess_37 : decode cX9_waysToSinkLess 37 = .ok (.isub, 1) := by decide +kernel
theorem dX9_waysToSinkLess_38 : decode cX9_waysToSinkLess 38 = .ok (.invokestatic 219, 3) := by decide +kernel
theorem dX9_waysToSinkLess_41 : decode cX9_waysToSinkLess 41 = .ok (.imul, 1) := by decide +kernel
theorem dX9_waysToSinkLess_42 : decode cX9_waysToSinkLess 42 = .ok (.iadd, 1) := by decide +kernel
theorem dX9_waysToSinkLess_43 : decode cX9_waysToSinkLess 43 = .ok (.istore_n 3, 1) := by decide +kernel
theorem dX9_waysToSinkLess_44 : decode cX9_waysToSinkLess 44 = .ok (.iload 4, 2) := by decide +kernel
theorem dX9_waysToSinkLess_46 : decode cX9_waysToSinkLess 46 = .ok (.iload_n 1, 1) := by decide +kernel
theorem dX9_waysToSinkLess_47 : decode cX9_waysToSinkLess 47 = .ok (.iload 5, 2) := by decide +kernel
theorem dX9_waysToSinkLess_49 : decode cX9_waysToSinkLess 49 = .ok (.isub, 1) := by decide +kernel
theorem dX9_waysToSinkLess_50 : decode cX9_waysToSinkLess 50 = .ok (.imul, 1) := by decide +kernel
theorem dX9_waysToSinkLess_51 : decode cX9_waysToSinkLess 51 = .ok (.iload 5, 2) := by decide +kernel
theorem dX9_waysToSinkLess_53 : decode cX9_waysToSinkLess 53 = .ok (.iconst 1, 1) := by decide +kernel
theorem dX9_waysToSinkLess_54 : decode cX9_waysToSinkLess 54 = .ok (.iadd, 1) := by decide +kernel
theorem dX9_waysToSinkLess_55 : decode cX9_waysToSinkLess 55 = .ok (.idiv, 1) := by decide +kernel
theorem dX9_waysToSinkLess_56 : decode cX9_waysToSinkLess 56 = .ok (.istore 4, 2) := by decide +kernel
theorem dX9_waysToSinkLess_58 : decode cX9_waysToSinkLess 58 = .ok (.iinc 5 1, 3) := by decide +kernel
theorem dX9_waysToSinkLess_61 : decode cX9_waysToSinkLess 61 = .ok (.goto (-53), 3) := by decide +kernel
theorem dX9_waysToSinkLess_64 : decode cX9_waysToSinkLess 64 = .ok (.iload_n 3, 1) := by decide +kernel
theorem dX9_waysToSinkLess_65 : decode cX9_waysToSinkLess 65 = .ok (.ireturn, 1) := by decide +kernel
theorem dX9_power_0 : decode cX9_power 0 = .ok (.iconst 1, 1) := by decide +kernel
theorem dX9_power_1 : decode cX9_power 1 = .ok (.istore_n 2, 1) := by decide +kernel
theorem dX9_power_2 : decode cX9_power 2 = .ok (.iconst 0, 1) := by decide +kernel
theorem dX9_power_3 : decode cX9_power 3 = .ok (.istore_n 3, 1) := by decide +kernel
theorem dX9_power_4 : decode cX9_power 4 = .ok (.iload_n 3, 1) := by decide +kernel
theorem dX9_power_5 : decode cX9_power 5 = .ok (.iload_n 1, 1) := by decide +kernel
theorem dX9_power_6 : decode cX9_power 6 = .ok (.if_icmp .ge 13, 3) := by decide +kernel
theorem dX9_power_9 : decode cX9_power 9 = .ok (.iload_n 2, 1) := by decide +kernel
theorem dX9_power_10 : decode cX9_power 10 = .ok (.iload_n 0, 1) := by decide +kernel
theorem dX9_power_11 : decode cX9_power 11 = .ok (.imul, 1) := by decide +kernel
theorem dX9_power_12 : decode cX9_power 12 = .ok (.istore_n 2, 1) := by decide +kernel
theorem dX9_power_13 : decode cX9_power 13 = .ok (.iinc 3 1, 3) := by decide +kernel
theorem dX9_power_16 : decode cX9_power 16 = .ok (.goto (-12), 3) := by decide +kernel
theorem dX9_power_19 : decode cX9_power 19 = .ok (.iload_n 2, 1) := by decide +kernel
theorem dX9_power_20 : decode cX9_power 20 = .ok (.ireturn, 1) := by decide +kernel
theorem dX9_commonDivisor_0 : decode cX9_commonDivisor 0 = .ok (.iload_n 0, 1) := by decide +kernel
theorem dX9_commonDivisor_1 : decode cX9_commonDivisor 1 = .ok (.iload_n 1, 1) := by decide +kernel
theorem dX9_commonDivisor_2 : decode cX9_commonDivisor 2 = .ok (.invokestatic 226, 3) := by decide +kernel
theorem dX9_commonDivisor_5 : decode cX9_commonDivisor 5 = .ok (.istore_n 2, 1) := by decide +kernel
theorem dX9_commonDivisor_6 : decode cX9_commonDivisor 6 = .ok (.iload_n 0, 1) := by decide +kernel
theorem dX9_commonDivisor_7 : decode cX9_commonDivisor 7 = .ok (.iload_n 1, 1) := by decide +kernel
theorem dX9_commonDivisor_8 : decode cX9_commonDivisor 8 = .ok (.invokestatic 265, 3) := by decide +kernel
theorem dX9_commonDivisor_11 : decode cX9_commonDivisor 11 = .ok (.istore_n 3, 1) := by decide +kernel
theorem dX9_commonDivisor_12 : decode cX9_commonDivisor 12 = .ok (.iconst 0, 1) := by decide +kernel
theorem dX9_commonDivisor_13 : decode cX9_commonDivisor 13 = .ok (.istore 4, 2) := by decide +kernel
theorem dX9_commonDivisor_15 : decode cX9_commonDivisor 15 = .ok (.iload 4, 2) := by decide +kernel
theorem dX9_commonDivisor_17 : decode cX9_commonDivisor 17 = .ok (.bipush 64, 2) := by decide +kernel
theorem dX9_commonDivisor_19 : decode cX9_commonDivisor 19 = .ok (.if_icmp .ge 23, 3) := by decide +kernel
theorem dX9_commonDivisor_22 : decode cX9_commonDivisor 22 = .ok (.iload_n 3, 1) := by decide +kernel
theorem dX9_commonDivisor_23 : decode cX9_commonDivisor 23 = .ok (.ifCond .le 19, 3) := by decide +kernel
theorem dX9_commonDivisor_26 : decode cX9_commonDivisor 26 = .ok (.iload_n 2, 1) := by decide +kernel
theorem dX9_commonDivisor_27 : decode cX9_commonDivisor 27 = .ok (.iload_n 3, 1) := by decide +kernel
theorem dX9_commonDivisor_28 : decode cX9_commonDivisor 28 = .ok (.irem, 1) := by decide +kernel
theorem dX9_commonDivisor_29 : decode cX9_commonDivisor 29 = .ok (.istore 5, 2) := by decide +kernel
theorem dX9_commonDivisor_31 : decode cX9_commonDivisor 31 = .ok (.iload_n 3, 1) := by decide +kernel
theorem dX9_commonDivisor_32 : decode cX9_commonDivisor 32 = .ok (.istore_n 2, 1) := by decide +kernel
theorem dX9_commonDivisor_33 : decode cX9_commonDivisor 33 = .ok (.iload 5, 2) := by decide +kernel
theorem dX9_commonDivisor_35 : decode cX9_commonDivisor 35 = .ok (.istore_n 3, 1) := by decide +kernel
theorem dX9_commonDivisor_36 : decode cX9_commonDivisor 36 = .ok (.iinc 4 1, 3) := by decide +kernel
theorem dX9_commonDivisor_39 : decode cX9_commonDivisor 39 = .ok (.goto (-24), 3) := by decide +kernel
theorem dX9_commonDivisor_42 : decode cX9_commonDivisor 42 = .ok (.iload_n 2, 1) := by decide +kernel
theorem dX9_commonDivisor_43 : decode cX9_commonDivisor 43 = .ok (.ireturn, 1) := by decide +kernel
theorem dX9_isRest_0 : decode cX9_isRest 0 = .ok (.iload_n 3, 1) := by decide +kernel
theorem dX9_isRest_1 : decode cX9_isRest 1 = .ok (.ifCond .eq 8, 3) := by decide +kernel
theorem dX9_isRest_4 : decode cX9_isRest 4 = .ok (.iload_n 3, 1) := by decide +kernel
theorem dX9_isRest_5 : decode cX9_isRest 5 = .ok (.iconst 1, 1) := by decide +kernel
theorem dX9_isRest_6 : decode cX9_isRest 6 = .ok (.if_icmp .ne 7, 3) := by decide +kernel
theorem dX9_isRest_9 : decode cX9_isRest 9 = .ok (.iconst 1, 1) := by decide +kernel
theorem dX9_isRest_10 : decode cX9_isRest 10 = .ok (.goto 4, 3) := by decide +kernel
theorem dX9_isRest_13 : decode cX9_isRest 13 = .ok (.iconst 0, 1) := by decide +kernel
theorem dX9_isRest_14 : decode cX9_isRest 14 = .ok (.istore 4, 2) := by decide +kernel
theorem dX9_isRest_16 : decode cX9_isRest 16 = .ok (.iload_n 3, 1) := by decide +kernel
theorem dX9_isRest_17 : decode cX9_isRest 17 = .ok (.ifCond .eq 8, 3) := by decide +kernel
theorem dX9_isRest_20 : decode cX9_isRest 20 = .ok (.iload_n 3, 1) := by decide +kernel
theorem dX9_isRest_21 : decode cX9_isRest 21 = .ok (.iconst 2, 1) := by decide +kernel
theorem dX9_isRest_22 : decode cX9_isRest 22 = .ok (.if_icmp .ne 7, 3) := by decide +kernel
theorem dX9_isRest_25 : decode cX9_isRest 25 = .ok (.iconst 1, 1) := by decide +kernel
theorem dX9_isRest_26 : decode cX9_isRest 26 = .ok (.goto 4, 3) := by decide +kernel
theorem dX9_isRest_29 : decode cX9_isRest 29 = .ok (.iconst 0, 1) := by decide +kernel
theorem dX9_isRest_30 : decode cX9_isRest 30 = .ok (.istore 5, 2) := by decide +kernel
theorem dX9_isRest_32 : decode cX9_isRest 32 = .ok (.aload_n 0, 1) := by decide +kernel
theorem dX9_isRest_33 : decode cX9_isRest 33 = .ok (.iload_n 1, 1) := by decide +kernel
theorem dX9_isRest_34 : decode cX9_isRest 34 = .ok (.iload 4, 2) := by decide +kernel
theorem dX9_isRest_36 : decode cX9_isRest 36 = .ok (.iload 5, 2) := by decide +kernel
theorem dX9_isRest_38 : decode cX9_isRest 38 = .ok (.invokevirtual 268, 3) := by decide +kernel
theorem dX9_isRest_41 : decode cX9_isRest 41 = .ok (.aload_n 0, 1) := by decide +kernel
theorem dX9_isRest_42 : decode cX9_isRest 42 = .ok (.iload_n 1, 1) := by decide +kernel
theorem dX9_isRest_43 : decode cX9_isRest 43 = .ok (.iload 4, 2) := by decide +kernel
theorem dX9_isRest_45 : decode cX9_isRest 45 = .ok (.ifCond .ne 7, 3) := by decide +kernel
theorem dX9_isRest_48 : decode cX9_isRest 48 = .ok (.iconst 1, 1) := by decide +kernel
theorem dX9_isRest_49 : decode cX9_isRest 49 = .ok (.goto 4, 3) := by decide +kernel
theorem dX9_isRest_52 : decode cX9_isRest 52 = .ok (.iconst 0, 1) := by decide +kernel
theorem dX9_isRest_53 : decode cX9_isRest 53 = .ok (.iload 5, 2) := by decide +kernel
theorem dX9_isRest_55 : decode cX9_isRest 55 = .ok (.invokevirtual 268, 3) := by decide +kernel
theorem dX9_isRest_58 : decode cX9_isRest 58 = .ok (.if_icmp .gt 36, 3) := by decide +kernel
theorem dX9_isRest_61 : decode cX9_isRest 61 = .ok (.aload_n 0, 1) := by decide +kernel
theorem dX9_isRest_62 : decode cX9_isRest 62 = .ok (.iload_n 2, 1) := by decide +kernel
theorem dX9_isRest_63 : decode cX9_isRest 63 = .ok (.iload 5, 2) := by decide +kernel
theorem dX9_isRest_65 : decode cX9_isRest 65 = .ok (.iload 4, 2) := by decide +kernel
theorem dX9_isRest_67 : decode cX9_isRest 67 = .ok (.invokevirtual 268, 3) := by decide +kernel
theorem dX9_isRest_70 : decode cX9_isRest 70 = .ok (.aload_n 0, 1) := by decide +kernel
theorem dX9_isRest_71 : decode cX9_isRest 71 = .ok (.iload_n 2, 1) := by decide +kernel
theorem dX9_isRest_72 : decode cX9_isRest 72 = .ok (.iload 5, 2) := by decide +kernel
theorem dX9_isRest_74 : decode cX9_isRest 74 = .ok (.ifCond .ne 7, 3) := by decide +kernel
theorem dX9_isRest_77 : decode cX9_isRest 77 = .ok (.iconst 1, 1) := by decide +kernel
theorem dX9_isRest_78 : decode cX9_isRest 78 = .ok (.goto 4, 3) := by decide +kernel
theorem dX9_isRest_81 : decode cX9_isRest 81 = .ok (.iconst 0, 1) := by decide +kernel
theorem dX9_isRest_82 : decode cX9_isRest 82 = .ok (.iload 4, 2) := by decide +kernel
theorem dX9_isRest_84 : decode cX9_isRest 84 = .ok (.invokevirtual 268, 3) := by decide +kernel
theorem dX9_isRest_87 : decode cX9_isRest 87 = .ok (.if_icmp .gt 7, 3) := by decide +kernel
theorem dX9_isRest_90 : decode cX9_isRest 90 = .ok (.iconst 1, 1) := by decide +kernel
theorem dX9_isRest_91 : decode cX9_isRest 91 = .ok (.goto 4, 3) := by decide +kernel
theorem dX9_isRest_94 : decode cX9_isRest 94 = .ok (.iconst 0, 1) := by decide +kernel
theorem dX9_isRest_95 : decode cX9_isRest 95 = .ok (.ireturn, 1) := by decide +kernel
theorem dX9_standChoosing_0 : decode cX9_standChoosing 0 = .ok (.iload_n 2, 1) := by decide +kernel
theorem dX9_standChoosing_1 : decode cX9_standChoosing 1 = .ok (.ifCond .eq 21, 3) := by decide +kernel
theorem dX9_standChoosing_4 : decode cX9_standChoosing 4 = .ok (.aload_n 0, 1) := by decide +kernel
theorem dX9_standChoosing_5 : decode cX9_standChoosing 5 = .ok (.getfield 32, 3) := by decide +kernel
theorem dX9_standChoosing_8 : decode cX9_standChoosing 8 = .ok (.getfield 272, 3) := by decide +kernel
theorem dX9_standChoosing_11 : decode cX9_standChoosing 11 = .ok (.aload_n 0, 1) := by decide +kernel
theorem dX9_standChoosing_12 : decode cX9_standChoosing 12 = .ok (.getfield 38, 3) := by decide +kernel
theorem dX9_standChoosing_15 : decode cX9_standChoosing 15 = .ok (.getfield 133, 3) := by decide +kernel
theorem dX9_standChoosing_18 : decode cX9_standChoosing 18 = .ok (.iload_n 1, 1) := by decide +kernel
theorem dX9_standChoosing_19 : decode cX9_standChoosing 19 = .ok (.iaload, 1) := by decide +kernel
theorem dX9_standChoosing_20 : decode cX9_standChoosing 20 = .ok (.iadd, 1) := by decide +kernel
theorem dX9_standChoosing_21 : decode cX9_standChoosing 21 = .ok (.ireturn, 1) := by decide +kernel
theorem dX9_standChoosing_22 : decode cX9_standChoosing 22 = .ok (.iload_n 3, 1) := by decide +kernel
theorem dX9_standChoosing_23 : decode cX9_standChoosing 23 = .ok (.ifCond .eq 7, 3) := by decide +kernel
theorem dX9_standChoosing_26 : decode cX9_standChoosing 26 = .ok (.iconst 0, 1) := by decide +kernel
theorem dX9_standChoosing_27 : decode cX9_standChoosing 27 = .ok (.goto 10, 3) := by decide +kernel
theorem dX9_standChoosing_30 : decode cX9_standChoosing 30 = .ok (.aload_n 0, 1) := by decide +kernel
theorem dX9_standChoosing_31 : decode cX9_standChoosing 31 = .ok (.getfield 32, 3) := by decide +kernel
theorem dX9_standChoosing_34 : decode cX9_standChoosing 34 = .ok (.getfield 275, 3) := by decide +kernel
theorem dX9_standChoosing_37 : decode cX9_standChoosing 37 = .ok (.ireturn, 1) := by decide +kernel
theorem dX9_fitsSightings_0 : decode cX9_fitsSightings 0 = .ok (.iconst 0, 1) := by decide +kernel
theorem dX9_fitsSightings_1 : decode cX9_fitsSightings 1 = .ok (.istore_n 2, 1) := by decide +kernel
theorem dX9_fitsSightings_2 : decode cX9_fitsSightings 2 = .ok (.iload_n 2, 1) := by decide +kernel
theorem dX9_fitsSightings_3 : decode cX9_fitsSightings 3 = .ok (.aload_n 0, 1) := by decide +kernel
theorem dX9_fitsSightings_4 : decode cX9_fitsSightings 4 = .ok (.getfield 73, 3) := by decide +kernel
theorem dX9_fitsSightings_7 : decode cX9_fitsSightings 7 = .ok (.getfield 236, 3) := by decide +kernel
theorem dX9_fitsSightings_10 : decode cX9_fitsSightings 10 = .ok (.if_icmp .ge 47, 3) := by decide +kernel
theorem dX9_fitsSightings_13 : decode cX9_fitsSightings 13 = .ok (.aload_n 0, 1) := by decide +kernel
theorem dX9_fitsSightings_14 : decode cX9_fitsSightings 14 = .ok (.getfield 73, 3) := by decide +kernel
theorem dX9_fitsSightings_17 : decode cX9_fitsSightings 17 = .ok (.getfield 278, 3) := by decide +kernel
theorem dX9_fitsSightings_20 : decode cX9_fitsSightings 20 = .ok (.iload_n 2, 1) := by decide +kernel
theorem dX9_fitsSightings_21 : decode cX9_fitsSightings 21 = .ok (.iaload, 1) := by decide +kernel
theorem dX9_fitsSightings_22 : decode cX9_fitsSightings 22 = .ok (.istore_n 3, 1) := by decide +kernel
theorem dX9_fitsSightings_23 : decode cX9_fitsSightings 23 = .ok (.aload_n 0, 1) := by decide +kernel
theorem dX9_fitsSightings_24 : decode cX9_fitsSightings 24 = .ok (.getfield 50, 3) := by decide +kernel
theorem dX9_fitsSightings_27 : decode cX9_fitsSightings 27 = .ok (.aload_n 0, 1) := by decide +kernel
theorem dX9_fitsSightings_28 : decode cX9_fitsSightings 28 = .ok (.getfield 38, 3) := by decide +kernel
theorem dX9_fitsSightings_31 : decode cX9_fitsSightings 31 = .ok (.iload_n 1, 1) := by decide +kernel
theorem dX9_fitsSightings_32 : decode cX9_fitsSightings 32 = .ok (.iload_n 3, 1) := by decide +kernel
theorem dX9_fitsSightings_33 : decode cX9_fitsSightings 33 = .ok (.aload_n 0, 1) := by decide +kernel
theorem dX9_fitsSightings_34 : decode cX9_fitsSightings 34 = .ok (.getfield 73, 3) := by decide +kernel
theorem dX9_fitsSightings_37 : decode cX9_fitsSightings 37 = .ok (.getfield 280, 3) := by decide +kernel
theorem dX9_fitsSightings_40 : decode cX9_fitsSightings 40 = .ok (.iload_n 2, 1) := by decide +kernel
theorem dX9_fitsSightings_41 : decode cX9_fitsSightings 41 = .ok (.iaload, 1) := by decide +kernel
theorem dX9_fitsSightings_42 : decode cX9_fitsSightings 42 = .ok (.invokevirtual 191, 3) := by decide +kernel
theorem dX9_fitsSightings_45 : decode cX9_fitsSightings 45 = .ok (.iload_n 3, 1) := by decide +kernel
theorem dX9_fitsSightings_46 : decode cX9_fitsSightings 46 = .ok (.if_icmp .eq 5, 3) := by decide +kernel
theorem dX9_fitsSightings_49 : decode cX9_fitsSightings 49 = .ok (.iconst 0, 1) := by decide +kernel
theorem dX9_fitsSightings_50 : decode cX9_fitsSightings 50 = .ok (.ireturn, 1) := by decide +kernel
theorem dX9_fitsSightings_51 : decode cX9_fitsSightings 51 = .ok (.iinc 2 1, 3) := by decide +kernel
theorem dX9_fitsSightings_54 : decode cX9_fitsSightings 54 = .ok (.goto (-52), 3) := by decide +kernel
theorem dX9_fitsSightings_57 : decode cX9_fitsSightings 57 = .ok (.iconst 1, 1) := by decide +kernel
theorem dX9_fitsSightings_58 : decode cX9_fitsSightings 58 = .ok (.ireturn, 1) := by decide +kernel
end
section
theorem dX10_init_0 : decode cX10_init 0 = .ok (.aload_n 0, 1) := by decide +kernel
theorem dX10_init_1 : decode cX10_init 1 = .ok (.invokespecial 1, 3) := by decide +kernel
theorem dX10_init_4 : decode cX10_init 4 = .ok (.aload_n 0, 1) := by decide +kernel
theorem dX10_init_5 : decode cX10_init 5 = .ok (.sipush 200, 3) := by decide +kernel
theorem dX10_init_8 : decode cX10_init 8 = .ok (.newarray .int, 2) := by decide +kernel
theorem dX10_init_10 : decode cX10_init 10 = .ok (.putfield 7, 3) := by decide +kernel
theorem dX10_init_13 : decode cX10_init 13 = .ok (.aload_n 0, 1) := by decide +kernel
theorem dX10_init_14 : decode cX10_init 14 = .ok (.iconst 2, 1) := by decide +kernel
theorem dX10_init_15 : decode cX10_init 15 = .ok (.newarray .int, 2) := by decide +kernel
theorem dX10_init_17 : decode cX10_init 17 = .ok (.putfield 13, 3) := by decide +kernel
theorem dX10_init_20 : decode cX10_init 20 = .ok (.aload_n 0, 1) := by decide +kernel
theorem dX10_init_21 : decode cX10_init 21 = .ok (.bipush 12, 2) := by decide +kernel
theorem dX10_init_23 : decode cX10_init 23 = .ok (.newarray .int, 2) := by decide +kernel
theorem dX10_init_25 : decode cX10_init 25 = .ok (.putfield 16, 3) := by decide +kernel
theorem dX10_init_28 : decode cX10_init 28 = .ok (.aload_n 0, 1) := by decide +kernel
theorem dX10_init_29 : decode cX10_init 29 = .ok (.bipush 12, 2) := by decide +kernel
theorem dX10_init_31 : decode cX10_init 31 = .ok (.newarray .int, 2) := by decide +kernel
theorem dX10_init_33 : decode cX10_init 33 = .ok (.putfield 19, 3) := by decide +kernel
theorem dX10_init_36 : decode cX10_init 36 = .ok (.aload_n 0, 1) := by decide +kernel
theorem dX10_init_37 : decode cX10_init 37 = .ok (.bipush 12, 2) := by decide +kernel
theorem dX10_init_39 : decode cX10_init 39 = .ok (.newarray .int, 2) := by decide +kernel
theorem dX10_init_41 : decode cX10_init 41 = .ok (.putfield 22, 3) := by decide +kernel
theorem dX10_init_44 : decode cX10_init 44 = .ok (.aload_n 0, 1) := by decide +kernel
theorem dX10_init_45 : decode cX10_init 45 = .ok (.bipush 12, 2) := by decide +kernel
theorem dX10_init_47 : decode cX10_init 47 = .ok (.newarray .int, 2) := by decide +kernel
theorem dX10_init_49 : decode cX10_init 49 = .ok (.putfield 25, 3) := by decide +kernel
theorem dX10_init_52 : decode cX10_init 52 = .ok (.aload_n 0, 1) := by decide +kernel
theorem dX10_init_53 : decode cX10_init 53 = .ok (.bipush 12, 2) := by decide +kernel
theorem dX10_init_55 : decode cX10_init 55 = .ok (.newarray .int, 2) := by decide +kernel
theorem dX10_init_57 : decode cX10_init 57 = .ok (.putfield 28, 3) := by decide +kernel
theorem dX10_init_60 : decode cX10_init 60 = .ok (.aload_n 0, 1) := by decide +kernel
theorem dX10_init_61 : decode cX10_init 61 = .ok (.iconst 2, 1) := by decide +kernel
theorem dX10_init_62 : decode cX10_init 62 = .ok (.newarray .int, 2) := by decide +kernel
theorem dX10_init_64 : decode cX10_init 64 = .ok (.putfield 31, 3) := by decide +kernel
theorem dX10_init_67 : decode cX10_init 67 = .ok (.aload_n 0, 1) := by decide +kernel
theorem dX10_init_68 : decode cX10_init 68 = .ok (.bipush 6, 2) := by decide +kernel
theorem dX10_init_70 : decode cX10_init 70 = .ok (.newarray .int, 2) := by decide +kernel
theorem dX10_init_72 : decode cX10_init 72 = .ok (.putfield 34, 3) := by decide +kernel
theorem dX10_init_75 : decode cX10_init 75 = .ok (.aload_n 0, 1) := by decide +kernel
theorem dX10_init_76 : decode cX10_init 76 = .ok (.bipush 6, 2) := by decide +kernel
theorem dX10_init_78 : decode cX10_init 78 = .ok (.newarray .int, 2) := by decide +kernel
theorem dX10_init_80 : decode cX10_init 80 = .ok (.putfield 37, 3) := by decide +kernel
theorem dX10_init_83 : decode cX10_init 83 = .ok (.aload_n 0, 1) := by decide +kernel
theorem dX10_init_84 : decode cX10_init 84 = .ok (.bipush 8, 2) := by decide +kernel
theorem dX10_init_86 : decode cX10_init 86 = .ok (.newarray .int, 2) := by decide +kernel
theorem dX10_init_88 : decode cX10_init 88 = .ok (.putfield 40, 3) := by decide +kernel
theorem dX10_init_91 : decode cX10_init 91 = .ok (.aload_n 0, 1) := by decide +kernel
theorem dX10_init_92 : decode cX10_init 92 = .ok (.bipush 12, 2) := by decide +kernel
theorem dX10_init_94 : decode cX10_init 94 = .ok (.newarray .int, 2) := by decide +kernel
theorem dX10_init_96 : decode cX10_init 96 = .ok (.putfield 43, 3) := by decide +kernel
theorem dX10_init_99 : decode cX10_init 99 = .ok (.aload_n 0, 1) := by decide +kernel
theorem dX10_init_100 : decode cX10_init 100 = .ok (.bipush 96, 2) := by decide +kernel
theorem dX10_init_102 : decode cX10_init 102 = .ok (.newarray .int, 2) := by decide +kernel
theorem dX10_init_104 : decode cX10_init 104 = .ok (.putfield 46, 3) := by decide +kernel
theorem dX10_init_107 : decode cX10_init 107 = .ok (.aload_n 0, 1) := by decide +kernel
theorem dX10_init_108 : decode cX10_init 108 = .ok (.bipush 24, 2) := by decide +kernel
theorem dX10_init_110 : decode cX10_init 110 = .ok (.newarray .int, 2) := by decide +kernel
theorem dX10_init_112 : decode cX10_init 112 = .ok (.putfield 49, 3) := by decide +kernel
theorem dX10_init_115 : decode cX10_init 115 = .ok (.aload_n 0, 1) := by decide +kernel
theorem dX10_init_116 : decode cX10_init 116 = .ok (.bipush 8, 2) := by decide +kernel
theorem dX10_init_118 : decode cX10_init 118 = .ok (.newarray .int, 2) := by decide +kernel
theorem dX10_init_120 : decode cX10_init 120 = .ok (.putfield 52, 3) := by decide +kernel
theorem dX10_init_123 : decode cX10_init 123 = .ok (.aload_n 0, 1) := by decide +kernel
theorem dX10_init_124 : decode cX10_init 124 = .ok (.bipush 8, 2) := by decide +kernel
theorem dX10_init_126 : decode cX10_init 126 = .ok (.newarray .int, 2) := by decide +kernel
theorem dX10_init_128 : decode cX10_init 128 = .ok (.putfield 55, 3) := by decide +kernel
theorem dX10_init_131 : decode cX10_init 131 = .ok (.aload_n 0, 1) := by decide +kernel
theorem dX10_init_132 : decode cX10_init 132 = .ok (.iconst 5, 1) := by decide +kernel
theorem dX10_init_133 : decode cX10_init 133 = .ok (.newarray .int, 2) := by decide +kernel
theorem dX10_init_135 : decode cX10_init 135 = .ok (.putfield 58, 3) := by decide +kernel
theorem dX10_init_138 : decode cX10_init 138 = .ok (.aload_n 0, 1) := by decide +kernel
theorem dX10_init_139 : decode cX10_init 139 = .ok (.sipush 726, 3) := by decide +kernel
theorem dX10_init_142 : decode cX10_init 142 = .ok (.newarray .int, 2) := by decide +kernel
theorem dX10_init_144 : decode cX10_init 144 = .ok (.putfield 61, 3) := by decide +kernel
theorem dX10_init_147 : decode cX10_init 147 = .ok (.aload_n 0, 1) := by decide +kernel
theorem dX10_init_148 : decode cX10_init 148 = .ok (.bipush 6, 2) := by decide +kernel
theorem dX10_init_150 : decode cX10_init 150 = .ok (.newarray .int, 2) := by decide +kernel
theorem dX10_init_152 : decode cX10_init 152 = .ok (.putfield 64, 3) := by decide +kernel
theorem dX10_init_155 : decode cX10_init 155 = .ok (.aload_n 0, 1) := by decide +kernel
theorem dX10_init_156 : decode cX10_init 156 = .ok (.bipush 6, 2) := by decide +kernel
theorem dX10_init_158 : decode cX10_init 158 = .ok (.newarray .int, 2) := by decide +kernel
theorem dX10_init_160 : decode cX10_init 160 = .ok (.putfield 67, 3) := by decide +kernel
theorem dX10_init_163 : decode cX10_init 163 = .ok (.aload_n 0, 1) := by decide +kernel
theorem dX10_init_164 : decode cX10_init 164 = .ok (.bipush 6, 2) := by decide +kernel
theorem dX10_init_166 : decode cX10_init 166 = .ok (.newarray .int, 2) := by decide +kernel
theorem dX10_init_168 : decode cX10_init 168 = .ok (.putfield 70, 3) := by decide +kernel
theorem dX10_init_171 : decode cX10_init 171 = .ok (.aload_n 0, 1) := by decide +kernel
theorem dX10_init_172 : decode cX10_init 172 = .ok (.bipush 6, 2) := by decide +kernel
theorem dX10_init_174 : decode cX10_init 174 = .ok (.newarray .int, 2) := by decide +kernel
theorem dX10_init_176 : decode cX10_init 176 = .ok (.putfield 73, 3) := by decide +kernel
theorem dX10_init_179 : decode cX10_init 179 = .ok (.aload_n 0, 1) := by decide +kernel
theorem dX10_init_180 : decode cX10_init 180 = .ok (.bipush 6, 2) := by decide +kernel
theorem dX10_init_182 : decode cX10_init 182 = .ok (.newarray .int, 2) := by decide +kernel
theorem dX10_init_184 : decode cX10_init 184 = .ok (.putfield 76, 3) := by decide +kernel
theorem dX10_init_187 : decode cX10_init 187 = .ok (.aload_n 0, 1) := by decide +kernel
theorem dX10_init_188 : decode cX10_init 188 = .ok (.bipush 15, 2) := by decide +kernel
theorem dX10_init_190 : decode cX10_init 190 = .ok (.newarray .int, 2) := by decide +kernel
theorem dX10_init_192 : decode cX10_init 192 = .ok (.putfield 79, 3) := by decide +kernel
theorem dX10_init_195 : decode cX10_init 195 = .ok (.aload_n 0, 1) := by decide +kernel
theorem dX10_init_196 : decode cX10_init 196 = .ok (.bipush 15, 2) := by decide +kernel
theorem dX10_init_198 : decode cX10_init 198 = .ok (.newarray .int, 2) := by decide +kernel
theorem dX10_init_200 : decode cX10_init 200 = .ok (.putfield 82, 3) := by decide +kernel
theorem dX10_init_203 : decode cX10_init 203 = .ok (.aload_n 0, 1) := by decide +kernel
theorem dX10_init_204 : decode cX10_init 204 = .ok (.bipush 15, 2) := by decide +kernel
theorem dX10_init_206 : decode cX10_init 206 = .ok (.newarray .int, 2) := by decide +kernel
theorem dX10_init_208 : decode cX10_init 208 = .ok (.putfield 85, 3) := by decide +kernel
theorem dX10_init_211 : decode cX10_init 211 = .ok (.aload_n 0, 1) := by decide +kernel
theorem dX10_init_212 : decode cX10_init 212 = .ok (.bipush 15, 2) := by decide +kernel
theorem dX10_init_214 : decode cX10_init 214 = .ok (.newarray .int, 2) := by decide +kernel
theorem dX10_init_216 : decode cX10_init 216 = .ok (.putfield 88, 3) := by decide +kernel
theorem dX10_init_219 : decode cX10_init 219 = .ok (.aload_n 0, 1) := by decide +kernel
theorem dX10_init_220 : decode cX10_init 220 = .ok (.bipush 12, 2) := by decide +kernel
theorem dX10_init_222 : decode cX10_init 222 = .ok (.newarray .int, 2) := by decide +kernel
theorem dX10_init_224 : decode cX10_init 224 = .ok (.putfield 91, 3) := by decide +kernel
theorem dX10_init_227 : decode cX10_init 227 = .ok (.aload_n 0, 1) := by decide +kernel
theorem dX10_init_228 : decode cX10_init 228 = .ok (.iconst 0, 1) := by decide +kernel
theorem dX10_init_229 : decode cX10_init 229 = .ok (.invokevirtual 94, 3) := by decide +kernel
theorem dX10_init_232 : decode cX10_init 232 = .ok (.aload_n 0, 1) := by decide +kernel
theorem dX10_init_233 : decode cX10_init 233 = .ok (.iconst 0, 1) := by decide +kernel
theorem dX10_init_234 : decode cX10_init 234 = .ok (.iconst 0, 1) := by decide +kernel
theorem dX10_init_235 : decode cX10_init 235 = .ok (.iconst 0, 1) := by decide +kernel
theorem dX10_init_236 : decode cX10_init 236 = .ok (.iconst 2, 1) := by decide +kernel
theorem dX10_init_237 : decode cX10_init 237 = .ok (.iconst 3, 1) := by decide +kernel
theorem dX10_init_238 : decode cX10_init 238 = .ok (.iconst 0, 1) := by decide +kernel
theorem dX10_init_239 : decode cX10_init 239 = .ok (.invokevirtual 98, 3) := by decide +kernel
theorem dX10_init_242 : decode cX10_init 242 = .ok (.aload_n 0, 1) := by decide +kernel
theorem dX10_init_243 : decode cX10_init 243 = .ok (.iconst 0, 1) := by decide +kernel
theorem dX10_init_244 : decode cX10_init 244 = .ok (.bipush 60, 2) := by decide +kernel
theorem dX10_init_246 : decode cX10_init 246 = .ok (.iconst 1, 1) := by decide +kernel
theorem dX10_init_247 : decode cX10_init 247 = .ok (.iconst 2, 1) := by decide +kernel
theorem dX10_init_248 : decode cX10_init 248 = .ok (.iconst 0, 1) := by decide +kernel
theorem dX10_init_249 : decode cX10_init 249 = .ok (.iconst 0, 1) := by decide +kernel
theorem dX10_init_250 : decode cX10_init 250 = .ok (.invokevirtual 98, 3) := by decide +kernel
theorem dX10_init_253 : decode cX10_init 253 = .ok (.aload_n 0, 1) := by decide +kernel
theorem dX10_init_254 : decode cX10_init 254 = .ok (.iconst 0, 1) := by decide +kernel
theorem dX10_init_255 : decode cX10_init 255 = .ok (.bipush 50, 2) := by decide +kernel
theorem dX10_init_257 : decode cX10_init 257 = .ok (.iconst 1, 1) := by decide +kernel
theorem dX10_init_258 : decode cX10_init 258 = .ok (.iconst 1, 1) := by decide +kernel
theorem dX10_init_259 : decode cX10_init 259 = .ok (.iconst 5, 1) := by decide +kernel
theorem dX10_init_260 : decode cX10_init 260 = .ok (.iconst 1, 1) := by decide +kernel
theorem dX10_init_261 : decode cX10_init 261 = .ok (.invokevirtual 98, 3) := by decide +kernel
theorem dX10_init_264 : decode cX10_init 264 = .ok (.aload_n 0, 1) := by decide +kernel
theorem dX10_init_265 : decode cX10_init 265 = .ok (.iconst 0, 1) := by decide +kernel
theorem dX10_init_266 : decode cX10_init 266 = .ok (.bipush 10, 2) := by decide +kernel
theorem dX10_init_268 : decode cX10_init 268 = .ok (.iconst 0, 1) := by decide +kernel
theorem dX10_init_269 : decode cX10_init 269 = .ok (.iconst 1, 1) := by decide +kernel
theorem dX10_init_270 : decode cX10_init 270 = .ok (.bipush 9, 2) := by decide +kernel
theorem dX10_init_272 : decode cX10_init 272 = .ok (.iconst 2, 1) := by decide +kernel
theorem dX10_init_273 : decode cX10_init 273 = .ok (.invokevirtual 98, 3) := by decide +kernel
theorem dX10_init_276 : decode cX10_init 276 = .ok (.aload_n 0, 1) := by decide +kernel
theorem dX10_init_277 : decode cX10_init 277 = .ok (.getfield 31, 3) := by decide +kernel
theorem dX10_init_280 : decode cX10_init 280 = .ok (.iconst 0, 1) := by decide +kernel
theorem dX10_init_281 : decode cX10_init 281 = .ok (.iconst 1, 1) := by decide +kernel
theorem dX10_init_282 : decode cX10_init 282 = .ok (.iastore, 1) := by decide +kernel
theorem dX10_init_283 : decode cX10_init 283 = .ok (.aload_n 0, 1) := by decide +kernel
theorem dX10_init_284 : decode cX10_init 284 = .ok (.getfield 34, 3) := by decide +kernel
theorem dX10_init_287 : decode cX10_init 287 = .ok (.iconst 0, 1) := by decide +kernel
theorem dX10_init_288 : decode cX10_init 288 = .ok (.bipush 28, 2) := by decide +kernel
theorem dX10_init_290 : decode cX10_init 290 = .ok (.iastore, 1) := by decide +kernel
theorem dX10_init_291 : decode cX10_init 291 = .ok (.aload_n 0, 1) := by decide +kernel
theorem dX10_init_292 : decode cX10_init 292 = .ok (.getfield 37, 3) := by decide +kernel
theorem dX10_init_295 : decode cX10_init 295 = .ok (.iconst 0, 1) := by decide +kernel
theorem dX10_init_296 : decode cX10_init 296 = .ok (.bipush 32, 2) := by decide +kernel
theorem dX10_init_298 : decode cX10_init 298 = .ok (.iastore, 1) := by decide +kernel
theorem dX10_init_299 : decode cX10_init 299 = .ok (.aload_n 0, 1) := by decide +kernel
theorem dX10_init_300 : decode cX10_init 300 = .ok (.invokevirtual 102, 3) := by decide +kernel
theorem dX10_init_303 : decode cX10_init 303 = .ok (.return_, 1) := by decide +kernel
theorem dX10_in_0 : decode cX10_in 0 = .ok (.lload_n 0, 1) := by decide +kernel
theorem dX10_in_1 : decode cX10_in 1 = .ok (.lload_n 2, 1) := by decide +kernel
theorem dX10_in_2 : decode cX10_in 2 = .ok (.lcmp, 1) := by decide +kernel
theorem dX10_in_3 : decode cX10_in 3 = .ok (.ifCond .lt 14, 3) := by decide +kernel
theorem dX10_in_6 : decode cX10_in 6 = .ok (.lload_n 0, 1) := by decide +kernel
theorem dX10_in_7 : decode cX10_in 7 = .ok (.lload 4, 2) := by decide +kernel
theorem dX10_in_9 : decode cX10_in 9 = .ok (.lcmp, 1) := by decide +kernel
theorem dX10_in_10 : decode cX10_in 10 = .ok (.ifCond .gt 7, 3) := by decide +kernel
theorem dX10_in_13 : decode cX10_in 13 = .ok (.iconst 1, 1) := by decide +kernel
theorem dX10_in_14 : decode cX10_in 14 = .ok (.goto 4, 3) := by decide +kernel
theorem dX10_in_17 : decode cX10_in 17 = .ok (.iconst 0, 1) := by decide +kernel
theorem dX10_in_18 : decode cX10_in 18 = .ok (.ireturn, 1) := by decide +kernel
theorem dX10_noCut_0 : decode cX10_noCut 0 = .ok (.aload_n 0, 1) := by decide +kernel
theorem dX10_noCut_1 : decode cX10_noCut 1 = .ok (.getfield 13, 3) := by decide +kernel
theorem dX10_noCut_4 : decode cX10_noCut 4 = .ok (.iload_n 1, 1) := by decide +kernel
theorem dX10_noCut_5 : decode cX10_noCut 5 = .ok (.iconst 0, 1) := by decide +kernel
theorem dX10_noCut_6 : decode cX10_noCut 6 = .ok (.iastore, 1) := by decide +kernel
theorem dX10_noCut_7 : decode cX10_noCut 7 = .ok (.aload_n 0, 1) := by decide +kernel
theorem dX10_noCut_8 : decode cX10_noCut 8 = .ok (.getfield 31, 3) := by decide +kernel
theorem dX10_noCut_11 : decode cX10_noCut 11 = .ok (.iload_n 1, 1) := by decide +kernel
theorem dX10_noCut_12 : decode cX10_noCut 12 = .ok (.iconst 0, 1) := by decide +kernel
theorem dX10_noCut_13 : decode cX10_noCut 13 = .ok (.iastore, 1) := by decide +kernel
theorem dX10_noCut_14 : decode cX10_noCut 14 = .ok (.aload_n 0, 1) := by decide +kernel
theorem dX10_noCut_15 : decode cX10_noCut 15 = .ok (.getfield 40, 3) := by decide +kernel
theorem dX10_noCut_18 : decode cX10_noCut 18 = .ok (.iconst 4, 1) := by decide +kernel
theorem dX10_noCut_19 : decode cX10_noCut 19 = .ok (.iload_n 1, 1) := by decide +kernel
theorem dX10_noCut_20 : decode cX10_noCut 20 = .ok (.imul, 1) := by decide +kernel
theorem dX10_noCut_21 : decode cX10_noCut 21 = .ok (.iconst 4, 1) := by decide +kernel
theorem dX10_noCut_22 : decode cX10_noCut 22 = .ok (.iastore, 1) := by decide +kernel
theorem dX10_noCut_23 : decode cX10_noCut 23 = .ok (.aload_n 0, 1) := by decide +kernel
theorem dX10_noCut_24 : decode cX10_noCut 24 = .ok (.getfield 40, 3) := by decide +kernel
theorem dX10_noCut_27 : decode cX10_noCut 27 = .ok (.iconst 4, 1) := by decide +kernel
theorem dX10_noCut_28 : decode cX10_noCut 28 = .ok (.iload_n 1, 1) := by decide +kernel
theorem dX10_noCut_29 : decode cX10_noCut 29 = .ok (.imul, 1) := by decide +kernel
theorem dX10_noCut_30 : decode cX10_noCut 30 = .ok (.iconst 1, 1) := by decide +kernel
theorem dX10_noCut_31 : decode cX10_noCut 31 = .ok (.iadd, 1) := by decide +kernel
theorem dX10_noCut_32 : decode cX10_noCut 32 = .ok (.bipush 10, 2) := by decide +kernel
theorem dX10_noCut_34 : decode cX10_noCut 34 = .ok (.iastore, 1) := by decide +kernel
theorem dX10_noCut_35 : decode cX10_noCut 35 = .ok (.aload_n 0, 1) := by decide +kernel
theorem dX10_noCut_36 : decode cX10_noCut 36 = .ok (.getfield 40, 3) := by decide +kernel
theorem dX10_noCut_39 : decode cX10_noCut 39 = .ok (.iconst 4, 1) := by decide +kernel
theorem dX10_noCut_40 : decode cX10_noCut 40 = .ok (.iload_n 1, 1) := by decide +kernel
theorem dX10_noCut_41 : decode cX10_noCut 41 = .ok (.imul, 1) := by decide +kernel
theorem dX10_noCut_42 : decode cX10_noCut 42 = .ok (.iconst 2, 1) := by decide +kernel
theorem dX10_noCut_43 : decode cX10_noCut 43 = .ok (.iadd, 1) := by decide +kernel
theorem dX10_noCut_44 : decode cX10_noCut 44 = .ok (.iconst 2, 1) := by decide +kernel
theorem dX10_noCut_45 : decode cX10_noCut 45 = .ok (.iastore, 1) := by decide +kernel
theorem dX10_noCut_46 : decode cX10_noCut 46 = .ok (.aload_n 0, 1) := by decide +kernel
theorem dX10_noCut_47 : decode cX10_noCut 47 = .ok (.getfield 40, 3) := by decide +kernel
theorem dX10_noCut_50 : decode cX10_noCut 50 = .ok (.iconst 4, 1) := by decide +kernel
theorem dX10_noCut_51 : decode cX10_noCut 51 = .ok (.iload_n 1, 1) := by decide +kernel
theorem dX10_noCut_52 : decode cX10_noCut 52 = .ok (.imul, 1) := by decide +kernel
theorem dX10_noCut_53 : decode cX10_noCut 53 = .ok (.iconst 3, 1) := by decide +kernel
theorem dX10_noCut_54 : decode cX10_noCut 54 = .ok (.iadd, 1) := by decide +kernel
theorem dX10_noCut_55 : decode cX10_noCut 55 = .ok (.iconst 4, 1) := by decide +kernel
theorem dX10_noCut_56 : decode cX10_noCut 56 = .ok (.iastore, 1) := by decide +kernel
theorem dX10_noCut_57 : decode cX10_noCut 57 = .ok (.return_, 1) := by decide +kernel
theorem dX10_addBoat_0 : decode cX10_addBoat 0 = .ok (.bipush 6, 2) := by decide +kernel
theorem dX10_addBoat_2 : decode cX10_addBoat 2 = .ok (.iload_n 1, 1) := by decide +kernel
theorem dX10_addBoat_3 : decode cX10_addBoat 3 = .ok (.imul, 1) := by decide +kernel
theorem dX10_addBoat_4 : decode cX10_addBoat 4 = .ok (.aload_n 0, 1) := by decide +kernel
theorem dX10_addBoat_5 : decode cX10_addBoat 5 = .ok (.getfield 13, 3) := by decide +kernel
theorem dX10_addBoat_8 : decode cX10_addBoat 8 = .ok (.iload_n 1, 1) := by decide +kernel
theorem dX10_addBoat_9 : decode cX10_addBoat 9 = .ok (.iaload, 1) := by decide +kernel
theorem dX10_addBoat_10 : decode cX10_addBoat 10 = .ok (.iadd, 1) := by decide +kernel
theorem dX10_addBoat_11 : decode cX10_addBoat 11 = .ok (.istore 7, 2) := by decide +kernel
theorem dX10_addBoat_13 : decode cX10_addBoat 13 = .ok (.aload_n 0, 1) := by decide +kernel
theorem dX10_addBoat_14 : decode cX10_addBoat 14 = .ok (.getfield 16, 3) := by decide +kernel
theorem dX10_addBoat_17 : decode cX10_addBoat 17 = .ok (.iload 7, 2) := by decide +kernel
theorem dX10_addBoat_19 : decode cX10_addBoat 19 = .ok (.iload_n 2, 1) := by decide +kernel
theorem dX10_addBoat_20 : decode cX10_addBoat 20 = .ok (.iastore, 1) := by decide +kernel
theorem dX10_addBoat_21 : decode cX10_addBoat 21 = .ok (.aload_n 0, 1) := by decide +kernel
theorem dX10_addBoat_22 : decode cX10_addBoat 22 = .ok (.getfield 19, 3) := by decide +kernel
theorem dX10_addBoat_25 : decode cX10_addBoat 25 = .ok (.iload 7, 2) := by decide +kernel
theorem dX10_addBoat_27 : decode cX10_addBoat 27 = .ok (.iload_n 3, 1) := by decide +kernel
theorem dX10_addBoat_28 : decode cX10_addBoat 28 = .ok (.iastore, 1) := by decide +kernel
theorem dX10_addBoat_29 : decode cX10_addBoat 29 = .ok (.aload_n 0, 1) := by decide +kernel
theorem dX10_addBoat_30 : decode cX10_addBoat 30 = .ok (.getfield 22, 3) := by decide +kernel
theorem dX10_addBoat_33 : decode cX10_addBoat 33 = .ok (.iload 7, 2) := by decide +kernel
theorem dX10_addBoat_35 : decode cX10_addBoat 35 = .ok (.iload 4, 2) := by decide +kernel
theorem dX10_addBoat_37 : decode cX10_addBoat 37 = .ok (.iastore, 1) := by decide +kernel
theorem dX10_addBoat_38 : decode cX10_addBoat 38 = .ok (.aload_n 0, 1) := by decide +kernel
theorem dX10_addBoat_39 : decode cX10_addBoat 39 = .ok (.getfield 25, 3) := by decide +kernel
theorem dX10_addBoat_42 : decode cX10_addBoat 42 = .ok (.iload 7, 2) := by decide +kernel
theorem dX10_addBoat_44 : decode cX10_addBoat 44 = .ok (.iload 5, 2) := by decide +kernel
theorem dX10_addBoat_46 : decode cX10_addBoat 46 = .ok (.iastore, 1) := by decide +kernel
theorem dX10_addBoat_47 : decode cX10_addBoat 47 = .ok (.aload_n 0, 1) := by decide +kernel
theorem dX10_addBoat_48 : decode cX10_addBoat 48 = .ok (.getfield 28, 3) := by decide +kernel
theorem dX10_addBoat_51 : decode cX10_addBoat 51 = .ok (.iload 7, 2) := by decide +kernel
theorem dX10_addBoat_53 : decode cX10_addBoat 53 = .ok (.iload 6, 2) := by decide +kernel
theorem dX10_addBoat_55 : decode cX10_addBoat 55 = .ok (.iastore, 1) := by decide +kernel
theorem dX10_addBoat_56 : decode cX10_addBoat 56 = .ok (.aload_n 0, 1) := by decide +kernel
theorem dX10_addBoat_57 : decode cX10_addBoat 57 = .ok (.getfield 13, 3) := by decide +kernel
theorem dX10_addBoat_60 : decode cX10_addBoat 60 = .ok (.iload_n 1, 1) := by decide +kernel
theorem dX10_addBoat_61 : decode cX10_addBoat 61 = .ok (.dup2, 1) := by decide +kernel
theorem dX10_addBoat_62 : decode cX10_addBoat 62 = .ok (.iaload, 1) := by decide +kernel
theorem dX10_addBoat_63 : decode cX10_addBoat 63 = .ok (.iconst 1, 1) := by decide +kernel
theorem dX10_addBoat_64 : decode cX10_addBoat 64 = .ok (.iadd, 1) := by decide +kernel
theorem dX10_addBoat_65 : decode cX10_addBoat 65 = .ok (.iastore, 1) := by decide +kernel
theorem dX10_addBoat_66 : decode cX10_addBoat 66 = .ok (.return_, 1) := by decide +kernel
theorem dX10_write_0 : decode cX10_write 0 = .ok (.iload_n 1, 1) := by decide +kernel
theorem dX10_write_1 : decode cX10_write 1 = .ok (.i2l, 1) := by decide +kernel
theorem dX10_write_2 : decode cX10_write 2 = .ok (.ldc2_w 105, 3) := by decide +kernel
theorem dX10_write_5 : decode cX10_write 5 = .ok (.ldc2_w 107, 3) := by decide +kernel
theorem dX10_write_8 : decode cX10_write 8 = .ok (.invokestatic 109, 3) := by decide +kernel
theorem dX10_write_11 : decode cX10_write 11 = .ok (.ifCond .ne 5, 3) := by decide +kernel
theorem dX10_write_14 : decode cX10_write 14 = .ok (.iconst (-1), 1) := by decide +kernel
theorem dX10_write_15 : decode cX10_write 15 = .ok (.ireturn, 1) := by decide +kernel
theorem dX10_write_16 : decode cX10_write 16 = .ok (.aload_n 0, 1) := by decide +kernel
theorem dX10_write_17 : decode cX10_write 17 = .ok (.getfield 113, 3) := by decide +kernel
theorem dX10_write_20 : decode cX10_write 20 = .ok (.sipush 200, 3) := by decide +kernel
theorem dX10_write_23 : decode cX10_write 23 = .ok (.if_icmp .ne 6, 3) := by decide +kernel
theorem dX10_write_26 : decode cX10_write 26 = .ok (.bipush (-3), 2) := by decide +kernel
theorem dX10_write_28 : decode cX10_write 28 = .ok (.ireturn, 1) := by decide +kernel
theorem dX10_write_29 : decode cX10_write 29 = .ok (.aload_n 0, 1) := by decide +kernel
theorem dX10_write_30 : decode cX10_write 30 = .ok (.getfield 7, 3) := by decide +kernel
theorem dX10_write_33 : decode cX10_write 33 = .ok (.aload_n 0, 1) := by decide +kernel
theorem dX10_write_34 : decode cX10_write 34 = .ok (.getfield 113, 3) := by decide +kernel
theorem dX10_write_37 : decode cX10_write 37 = .ok (.iload_n 1, 1) := by decide +kernel
theorem dX10_write_38 : decode cX10_write 38 = .ok (.iastore, 1) := by decide +kernel
theorem dX10_write_39 : decode cX10_write 39 = .ok (.aload_n 0, 1) := by decide +kernel
theorem dX10_write_40 : decode cX10_write 40 = .ok (.dup, 1) := by decide +kernel
theorem dX10_write_41 : decode cX10_write 41 = .ok (.getfield 113, 3) := by decide +kernel
theorem dX10_write_44 : decode cX10_write 44 = .ok (.iconst 1, 1) := by decide +kernel
theorem dX10_write_45 : decode cX10_write 45 = .ok (.iadd, 1) := by decide +kernel
theorem dX10_write_46 : decode cX10_write 46 = .ok (.putfield 113, 3) := by decide +kernel
theorem dX10_write_49 : decode cX10_write 49 = .ok (.aload_n 0, 1) := by decide +kernel
theorem dX10_write_50 : decode cX10_write 50 = .ok (.getfield 113, 3) := by decide +kernel
theorem dX10_write_53 : decode cX10_write 53 = .ok (.ireturn, 1) := by decide +kernel
theorem dX10_wipe_0 : decode cX10_wipe 0 = .ok (.aload_n 0, 1) := by decide +kernel
theorem dX10_wipe_1 : decode cX10_wipe 1 = .ok (.getfield 113, 3) := by decide +kernel
theorem dX10_wipe_4 : decode cX10_wipe 4 = .ok (.istore_n 1, 1) := by decide +kernel
theorem dX10_wipe_5 : decode cX10_wipe 5 = .ok (.aload_n 0, 1) := by decide +kernel
theorem dX10_wipe_6 : decode cX10_wipe 6 = .ok (.iconst 0, 1) := by decide +kernel
theorem dX10_wipe_7 : decode cX10_wipe 7 = .ok (.putfield 113, 3) := by decide +kernel
theorem dX10_wipe_10 : decode cX10_wipe 10 = .ok (.iload_n 1, 1) := by decide +kernel
theorem dX10_wipe_11 : decode cX10_wipe 11 = .ok (.ireturn, 1) := by decide +kernel
theorem dX10_letterAt_0 : decode cX10_letterAt 0 = .ok (.iload_n 1, 1) := by decide +kernel
theorem dX10_letterAt_1 : decode cX10_letterAt 1 = .ok (.aload_n 0, 1) := by decide +kernel
theorem dX10_letterAt_2 : decode cX10_letterAt 2 = .ok (.getfield 113, 3) := by decide +kernel
theorem dX10_letterAt_5 : decode cX10_letterAt 5 = .ok (.if_icmp .ge 12, 3) := by decide +kernel
theorem dX10_letterAt_8 : decode cX10_letterAt 8 = .ok (.aload_n 0, 1) := by decide +kernel
theorem dX10_letterAt_9 : decode cX10_letterAt 9 = .ok (.getfield 7, 3) := by decide +kernel
theorem dX10_letterAt_12 : decode cX10_letterAt 12 = .ok (.iload_n 1, 1) := by decide +kernel
theorem dX10_letterAt_13 : decode cX10_letterAt 13 = .ok (.iaload, 1) := by decide +kernel
theorem dX10_letterAt_14 : decode cX10_letterAt 14 = .ok (.goto 4, 3) := by decide +kernel
theorem dX10_letterAt_17 : decode cX10_letterAt 17 = .ok (.iconst 0, 1) := by decide +kernel
theorem dX10_letterAt_18 : decode cX10_letterAt 18 = .ok (.ireturn, 1) := by decide +kernel
theorem dX10_figures_0 : decode cX10_figures 0 = .ok (.iconst 0, 1) := by decide +kernel
theorem dX10_figures_1 : decode cX10_figures 1 = .ok (.istore_n 2, 1) := by decide +kernel
theorem dX10_figures_2 : decode cX10_figures 2 = .ok (.iload_n 2, 1) := by decide +kernel
theorem dX10_figures_3 : decode cX10_figures 3 = .ok (.iload_n 1, 1) := by decide +kernel
theorem dX10_figures_4 : decode cX10_figures 4 = .ok (.if_icmp .ge 132, 3) := by decide +kernel
theorem dX10_figures_7 : decode cX10_figures 7 = .ok (.iconst 0, 1) := by decide +kernel
theorem dX10_figures_8 : decode cX10_figures 8 = .ok (.istore_n 3, 1) := by decide +kernel
theorem dX10_figures_9 : decode cX10_figures 9 = .ok (.iconst 0, 1) := by decide +kernel
theorem dX10_figures_10 : decode cX10_figures 10 = .ok (.istore 4, 2) := by decide +kernel
theorem dX10_figures_12 : decode cX10_figures 12 = .ok (.aload_n 0, 1) := by decide +kernel
theorem dX10_figures_13 : decode cX10_figures 13 = .ok (.aload_n 0, 1) := by decide +kernel
theorem dX10_figures_14 : decode cX10_figures 14 = .ok (.getfield 117, 3) := by decide +kernel
theorem dX10_figures_17 : decode cX10_figures 17 = .ok (.invokevirtual 120, 3) := by decide +kernel
theorem dX10_figures_20 : decode cX10_figures 20 = .ok (.i2l, 1) := by decide +kernel
theorem dX10_figures_21 : decode cX10_figures 21 = .ok (.ldc2_w 124, 3) := by decide +kernel
theorem dX10_figures_24 : decode cX10_figures 24 = .ok (.ldc2_w 126, 3) := by decide +kernel
theorem dX10_figures_27 : decode cX10_figures 27 = .ok (.invokestatic 109, 3) := by decide +kernel
theorem dX10_figures_30 : decode cX10_figures 30 = .ok (.ifCond .eq 43, 3) := by decide +kernel
theorem dX10_figures_33 : decode cX10_figures 33 = .ok (.iload_n 3, 1) := by decide +kernel
theorem dX10_figures_34 : decode cX10_figures 34 = .ok (.iconst 3, 1) := by decide +kernel
theorem dX10_figures_35 : decode cX10_figures 35 = .ok (.if_icmp .ge 38, 3) := by decide +kernel
theorem dX10_figures_38 : decode cX10_figures 38 = .ok (.bipush 10, 2) := by decide +kernel
theorem dX10_figures_40 : decode cX10_figures 40 = .ok (.iload 4, 2) := by decide +kernel
theorem dX10_figures_42 : decode cX10_figures 42 = .ok (.imul, 1) := by decide +kernel
theorem dX10_figures_43 : decode cX10_figures 43 = .ok (.aload_n 0, 1) := by decide +kernel
theorem dX10_figures_44 : decode cX10_figures 44 = .ok (.aload_n 0, 1) := by decide +kernel
theorem dX10_figures_45 : decode cX10_figures 45 = .ok (.getfield 117, 3) := by decide +kernel
theorem dX10_figures_48 : decode cX10_figures 48 = .ok (.invokevirtual 120, 3) := by decide +kernel
theorem dX10_figures_51 : decode cX10_figures 51 = .ok (.iadd, 1) := by decide +kernel
theorem dX10_figures_52 : decode cX10_figures 52 = .ok (.bipush 48, 2) := by decide +kernel
theorem dX10_figures_54 : decode cX10_figures 54 = .ok (.isub, 1) := by decide +kernel
theorem dX10_figures_55 : decode cX10_figures 55 = .ok (.istore 4, 2) := by decide +kernel
theorem dX10_figures_57 : decode cX10_figures 57 = .ok (.iinc 3 1, 3) := by decide +kernel
theorem dX10_figures_60 : decode cX10_figures 60 = .ok (.aload_n 0, 1) := by decide +kernel
theorem dX10_figures_61 : decode cX10_figures 61 = .ok (.dup, 1) := by decide +kernel
theorem dX10_figures_62 : decode cX10_figures 62 = .ok (.getfield 117, 3) := by decide +kernel
theorem dX10_figures_65 : decode cX10_figures 65 = .ok (.iconst 1, 1) := by decide +kernel
theorem dX10_figures_66 : decode cX10_figures 66 = .ok (.iadd, 1) := by decide +kernel
theorem dX10_figures_67 : decode cX10_figures 67 = .ok (.putfield 117, 3) := by decide +kernel
theorem dX10_figures_70 : decode cX10_figures 70 = .ok (.goto (-58), 3) := by decide +kernel
theorem dX10_figures_73 : decode cX10_figures 73 = .ok (.iload_n 3, 1) := by decide +kernel
theorem dX10_figures_74 : decode cX10_figures 74 = .ok (.i2l, 1) := by decide +kernel
theorem dX10_figures_75 : decode cX10_figures 75 = .ok (.lconst 1, 1) := by decide +kernel
theorem dX10_figures_76 : decode cX10_figures 76 = .ok (.ldc2_w 128, 3) := by decide +kernel
theorem dX10_figures_79 : decode cX10_figures 79 = .ok (.invokestatic 109, 3) := by decide +kernel
theorem dX10_figures_82 : decode cX10_figures 82 = .ok (.ifCond .eq 28, 3) := by decide +kernel
theorem dX10_figures_85 : decode cX10_figures 85 = .ok (.aload_n 0, 1) := by decide +kernel
theorem dX10_figures_86 : decode cX10_figures 86 = .ok (.aload_n 0, 1) := by decide +kernel
theorem dX10_figures_87 : decode cX10_figures 87 = .ok (.getfield 117, 3) := by decide +kernel
theorem dX10_figures_90 : decode cX10_figures 90 = .ok (.invokevirtual 120, 3) := by decide +kernel
theorem dX10_figures_93 : decode cX10_figures 93 = .ok (.iload_n 2, 1) := by decide +kernel
theorem dX10_figures_94 : decode cX10_figures 94 = .ok (.iload_n 1, 1) := by decide +kernel
theorem dX10_figures_95 : decode cX10_figures 95 = .ok (.iconst 1, 1) := by decide +kernel
theorem dX10_figures_96 : decode cX10_figures 96 = .ok (.isub, 1) := by decide +kernel
theorem dX10_figures_97 : decode cX10_figures 97 = .ok (.if_icmp .ge 8, 3) := by decide +kernel
theorem dX10_figures_100 : decode cX10_figures 100 = .ok (.bipush 44, 2) := by decide +kernel
theorem dX10_figures_102 : decode cX10_figures 102 = .ok (.goto 5, 3) := by decide +kernel
theorem dX10_figures_105 : decode cX10_figures 105 = .ok (.bipush 59, 2) := by decide +kernel
theorem dX10_figures_107 : decode cX10_figures 107 = .ok (.if_icmp .eq 5, 3) := by decide +kernel
theorem dX10_figures_110 : decode cX10_figures 110 = .ok (.iconst 0, 1) := by decide +kernel
theorem dX10_figures_111 : decode cX10_figures 111 = .ok (.ireturn, 1) := by decide +kernel
theorem dX10_figures_112 : decode cX10_figures 112 = .ok (.aload_n 0, 1) := by decide +kernel
theorem dX10_figures_113 : decode cX10_figures 113 = .ok (.getfield 58, 3) := by decide +kernel
theorem dX10_figures_116 : decode cX10_figures 116 = .ok (.iload_n 2, 1) := by decide +kernel
theorem dX10_figures_117 : decode cX10_figures 117 = .ok (.iload 4, 2) := by decide +kernel
theorem dX10_figures_119 : decode cX10_figures 119 = .ok (.iastore, 1) := by decide +kernel
theorem dX10_figures_120 : decode cX10_figures 120 = .ok (.aload_n 0, 1) := by decide +kernel
theorem dX10_figures_121 : decode cX10_figures 121 = .ok (.dup, 1) := by decide +kernel
theorem dX10_figures_122 : decode cX10_figures 122 = .ok (.getfield 117, 3) := by decide +kernel
theorem dX10_figures_125 : decode cX10_figures 125 = .ok (.iconst 1, 1) := by decide +kernel
theorem dX10_figures_126 : decode cX10_figures 126 = .ok (.iadd, 1) := by decide +kernel
theorem dX10_figures_127 : decode cX10_figures 127 = .ok (.putfield 117, 3) := by decide +kernel
theorem dX10_figures_130 : decode cX10_figures 130 = .ok (.iinc 2 1, 3) := by decide +kernel
theorem dX10_figures_133 : decode cX10_figures 133 = .ok (.goto (-131), 3) := by decide +kernel
theorem dX10_figures_136 : decode cX10_figures 136 = .ok (.iconst 1, 1) := by decide +kernel
theorem dX10_figures_137 : decode cX10_figures 137 = .ok (.ireturn, 1) := by decide +kernel
theorem dX10_boatItem_0 : decode cX10_boatItem 0 = .ok (.aload_n 0, 1) := by decide +kernel
theorem dX10_boatItem_1 : decode cX10_boatItem 1 = .ok (.iconst 5, 1) := by decide +kernel
theorem dX10_boatItem_2 : decode cX10_boatItem 2 = .ok (.invokevirtual 130, 3) := by decide +kernel
theorem dX10_boatItem_5 : decode cX10_boatItem 5 = .ok (.ifCond .eq 77, 3) := by decide +kernel
theorem dX10_boatItem_8 : decode cX10_boatItem 8 = .ok (.aload_n 0, 1) := by decide +kernel
theorem dX10_boatItem_9 : decode cX10_boatItem 9 = .ok (.getfield 13, 3) := by decide +kernel
theorem dX10_boatItem_12 : decode cX10_boatItem 12 = .ok (.iconst 1, 1) := by decide +kernel
theorem dX10_boatItem_13 : decode cX10_boatItem 13 = .ok (.iaload, 1) := by decide +kernel
theorem dX10_boatItem_14 : decode cX10_boatItem 14 = .ok (.bipush 6, 2) := by decide +kernel
theorem dX10_boatItem_16 : decode cX10_boatItem 16 = .ok (.if_icmp .ge 66, 3) := by decide +kernel
theorem dX10_boatItem_19 : decode cX10_boatItem 19 = .ok (.aload_n 0, 1) := by decide +kernel
theorem dX10_boatItem_20 : decode cX10_boatItem 20 = .ok (.getfield 58, 3) := by decide +kernel
theorem dX10_boatItem_23 : decode cX10_boatItem 23 = .ok (.iconst 0, 1) := by decide +kernel
theorem dX10_boatItem_24 : decode cX10_boatItem 24 = .ok (.iaload, 1) := by decide +kernel
theorem dX10_boatItem_25 : decode cX10_boatItem 25 = .ok (.bipush 60, 2) := by decide +kernel
theorem dX10_boatItem_27 : decode cX10_boatItem 27 = .ok (.if_icmp .gt 55, 3) := by decide +kernel
theorem dX10_boatItem_30 : decode cX10_boatItem 30 = .ok (.aload_n 0, 1) := by decide +kernel
theorem dX10_boatItem_31 : decode cX10_boatItem 31 = .ok (.getfield 58, 3) := by decide +kernel
theorem dX10_boatItem_34 : decode cX10_boatItem 34 = .ok (.iconst 1, 1) := by decide +kernel
theorem dX10_boatItem_35 : decode cX10_boatItem 35 = .ok (.iaload, 1) := by decide +kernel
theorem dX10_boatItem_36 : decode cX10_boatItem 36 = .ok (.iconst 1, 1) := by decide +kernel
theorem dX10_boatItem_37 : decode cX10_boatItem 37 = .ok (.if_icmp .gt 45, 3) := by decide +kernel
theorem dX10_boatItem_40 : decode cX10_boatItem 40 = .ok (.aload_n 0, 1) := by decide +kernel
theorem dX10_boatItem_41 : decode cX10_boatItem 41 = .ok (.getfield 58, 3) := by decide +kernel
theorem dX10_boatItem_44 : decode cX10_boatItem 44 = .ok (.iconst 2, 1) := by decide +kernel
theorem dX10_boatItem_45 : decode cX10_boatItem 45 = .ok (.iaload, 1) := by decide +kernel
theorem dX10_boatItem_46 : decode cX10_boatItem 46 = .ok (.i2l, 1) := by decide +kernel
theorem dX10_boatItem_47 : decode cX10_boatItem 47 = .ok (.lconst 1, 1) := by decide +kernel
theorem dX10_boatItem_48 : decode cX10_boatItem 48 = .ok (.ldc2_w 134, 3) := by decide +kernel
theorem dX10_boatItem_51 : decode cX10_boatItem 51 = .ok (.invokestatic 109, 3) := by decide +kernel
theorem dX10_boatItem_54 : decode cX10_boatItem 54 = .ok (.ifCond .eq 28, 3) := by decide +kernel
theorem dX10_boatItem_57 : decode cX10_boatItem 57 = .ok (.aload_n 0, 1) := by decide +kernel
theorem dX10_boatItem_58 : decode cX10_boatItem 58 = .ok (.getfield 58, 3) := by decide +kernel
theorem dX10_boatItem_61 : decode cX10_boatItem 61 = .ok (.iconst 3, 1) := by decide +kernel
theorem dX10_boatItem_62 : decode cX10_boatItem 62 = .ok (.iaload, 1) := by decide +kernel
theorem dX10_boatItem_63 : decode cX10_boatItem 63 = .ok (.bipush 9, 2) := by decide +kernel
theorem dX10_boatItem_65 : decode cX10_boatItem 65 = .ok (.if_icmp .gt 17, 3) := by decide +kernel
theorem dX10_boatItem_68 : decode cX10_boatItem 68 = .ok (.aload_n 0, 1) := by decide +kernel
theorem dX10_boatItem_69 : decode cX10_boatItem 69 = .ok (.getfield 58, 3) := by decide +kernel
theorem dX10_boatItem_72 : decode cX10_boatItem 72 = .ok (.iconst 4, 1) := by decide +kernel
theorem dX10_boatItem_73 : decode cX10_boatItem 73 = .ok (.iaload, 1) := by decide +kernel
theorem dX10_boatItem_74 : decode cX10_boatItem 74 = .ok (.iconst 3, 1) := by decide +kernel
theorem dX10_boatItem_75 : decode cX10_boatItem 75 = .ok (.if_icmp .gt 7, 3) := by decide +kernel
theorem dX10_boatItem_78 : decode cX10_boatItem 78 = .ok (.iconst 1, 1) := by decide +kernel
theorem dX10_boatItem_79 : decode cX10_boatItem 79 = .ok (.goto 4, 3) := by decide +kernel
theorem dX10_boatItem_82 : decode cX10_boatItem 82 = .ok (.iconst 0, 1) := by decide +kernel
theorem dX10_boatItem_83 : decode cX10_boatItem 83 = .ok (.istore_n 1, 1) := by decide +kernel
theorem dX10_boatItem_84 : decode cX10_boatItem 84 = .ok (.iload_n 1, 1) := by decide +kernel
theorem dX10_boatItem_85 : decode cX10_boatItem 85 = .ok (.ifCond .eq 38, 3) := by decide +kernel
theorem dX10_boatItem_88 : decode cX10_boatItem 88 = .ok (.aload_n 0, 1) := by decide +kernel
theorem dX10_boatItem_89 : decode cX10_boatItem 89 = .ok (.iconst 1, 1) := by decide +kernel
theorem dX10_boatItem_90 : decode cX10_boatItem 90 = .ok (.aload_n 0, 1) := by decide +kernel
theorem dX10_boatItem_91 : decode cX10_boatItem 91 = .ok (.getfield 58, 3) := by decide +kernel
theorem dX10_boatItem_94 : decode cX10_boatItem 94 = .ok (.iconst 0, 1) := by decide +kernel
theorem dX10_boatItem_95 : decode cX10_boatItem 95 = .ok (.iaload, 1) := by decide +kernel
theorem dX10_boatItem_96 : decode cX10_boatItem 96 = .ok (.aload_n 0, 1) := by decide +kernel
theorem dX10_boatItem_97 : decode cX10_boatItem 97 = .ok (.getfield 58, 3) := by decide +kernel
theorem dX10_boatItem_100 : decode cX10_boatItem 100 = .ok (.iconst 1, 1) := by decide +kernel
theorem dX10_boatItem_101 : decode cX10_boatItem 101 = .ok (.iaload, 1) := by decide +kernel
theorem dX10_boatItem_102 : decode cX10_boatItem 102 = .ok (.aload_n 0, 1) := by decide +kernel
theorem dX10_boatItem_103 : decode cX10_boatItem 103 = .ok (.getfield 58, 3) := by decide +kernel
theorem dX10_boatItem_106 : decode cX10_boatItem 106 = .ok (.iconst 2, 1) := by decide +kernel
theorem dX10_boatItem_107 : decode cX10_boatItem 107 = .ok (.iaload, 1) := by decide +kernel
theorem dX10_boatItem_108 : decode cX10_boatItem 108 = .ok (.aload_n 0, 1) := by decide +kernel
theorem dX10_boatItem_109 : decode cX10_boatItem 109 = .ok (.getfield 58, 3) := by decide +kernel
theorem dX10_boatItem_112 : decode cX10_boatItem 112 = .ok (.iconst 3, 1) := by decide +kernel
theorem dX10_boatItem_113 : decode cX10_boatItem 113 = .ok (.iaload, 1) := by decide +kernel
theorem dX10_boatItem_114 : decode cX10_boatItem 114 = .ok (.aload_n 0, 1) := by decide +kernel
theorem dX10_boatItem_115 : decode cX10_boatItem 115 = .ok (.getfield 58, 3) := by decide +kernel
theorem dX10_boatItem_118 : decode cX10_boatItem 118 = .ok (.iconst 4, 1) := by decide +kernel
theorem dX10_boatItem_119 : decode cX10_boatItem 119 = .ok (.iaload, 1) := by decide +kernel
theorem dX10_boatItem_120 : decode cX10_boatItem 120 = .ok (.invokevirtual 98, 3) := by decide +kernel
theorem dX10_boatItem_123 : decode cX10_boatItem 123 = .ok (.iload_n 1, 1) := by decide +kernel
theorem dX10_boatItem_124 : decode cX10_boatItem 124 = .ok (.ireturn, 1) := by decide +kernel
theorem dX10_narrowItem_0 : decode cX10_narrowItem 0 = .ok (.aload_n 0, 1) := by decide +kernel
theorem dX10_narrowItem_1 : decode cX10_narrowItem 1 = .ok (.iconst 2, 1) := by decide +kernel
theorem dX10_narrowItem_2 : decode cX10_narrowItem 2 = .ok (.invokevirtual 130, 3) := by decide +kernel
theorem dX10_narrowItem_5 : decode cX10_narrowItem 5 = .ok (.ifCond .eq 39, 3) := by decide +kernel
theorem dX10_narrowItem_8 : decode cX10_narrowItem 8 = .ok (.aload_n 0, 1) := by decide +kernel
theorem dX10_narrowItem_9 : decode cX10_narrowItem 9 = .ok (.getfield 31, 3) := by decide +kernel
theorem dX10_narrowItem_12 : decode cX10_narrowItem 12 = .ok (.iconst 1, 1) := by decide +kernel
theorem dX10_narrowItem_13 : decode cX10_narrowItem 13 = .ok (.iaload, 1) := by decide +kernel
theorem dX10_narrowItem_14 : decode cX10_narrowItem 14 = .ok (.iconst 3, 1) := by decide +kernel
theorem dX10_narrowItem_15 : decode cX10_narrowItem 15 = .ok (.if_icmp .eq 29, 3) := by decide +kernel
theorem dX10_narrowItem_18 : decode cX10_narrowItem 18 = .ok (.aload_n 0, 1) := by decide +kernel
theorem dX10_narrowItem_19 : decode cX10_narrowItem 19 = .ok (.getfield 58, 3) := by decide +kernel
theorem dX10_narrowItem_22 : decode cX10_narrowItem 22 = .ok (.iconst 1, 1) := by decide +kernel
theorem dX10_narrowItem_23 : decode cX10_narrowItem 23 = .ok (.iaload, 1) := by decide +kernel
theorem dX10_narrowItem_24 : decode cX10_narrowItem 24 = .ok (.bipush 60, 2) := by decide +kernel
theorem dX10_narrowItem_26 : decode cX10_narrowItem 26 = .ok (.if_icmp .gt 18, 3) := by decide +kernel
theorem dX10_narrowItem_29 : decode cX10_narrowItem 29 = .ok (.aload_n 0, 1) := by decide +kernel
theorem dX10_narrowItem_30 : decode cX10_narrowItem 30 = .ok (.getfield 58, 3) := by decide +kernel
theorem dX10_narrowItem_33 : decode cX10_narrowItem 33 = .ok (.iconst 0, 1) := by decide +kernel
theorem dX10_narrowItem_34 : decode cX10_narrowItem 34 = .ok (.iaload, 1) := by decide +kernel
theorem dX10_narrowItem_35 : decode cX10_narrowItem 35 = .ok (.aload_n 0, 1) := by decide +kernel
theorem dX10_narrowItem_36 : decode cX10_narrowItem 36 = .ok (.getfield 58, 3) := by decide +kernel
theorem dX10_narrowItem_39 : decode cX10_narrowItem 39 = .ok (.iconst 1, 1) := by decide +kernel
theorem dX10_narrowItem_40 : decode cX10_narrowItem 40 = .ok (.iaload, 1) := by decide +kernel
theorem dX10_narrowItem_41 : decode cX10_narrowItem 41 = .ok (.if_icmp .le 5, 3) := by decide +kernel
theorem dX10_narrowItem_44 : decode cX10_narrowItem 44 = .ok (.iconst 0, 1) := by decide +kernel
theorem dX10_narrowItem_45 : decode cX10_narrowItem 45 = .ok (.ireturn, 1) := by decide +kernel
theorem dX10_narrowItem_46 : decode cX10_narrowItem 46 = .ok (.aload_n 0, 1) := by decide +kernel
theorem dX10_narrowItem_47 : decode cX10_narrowItem 47 = .ok (.getfield 34, 3) := by decide +kernel
theorem dX10_narrowItem_50 : decode cX10_narrowItem 50 = .ok (.iconst 3, 1) := by decide +kernel
theorem dX10_narrowItem_51 : decode cX10_narrowItem 51 = .ok (.aload_n 0, 1) := by decide +kernel
theorem dX10_narrowItem_52 : decode cX10_narrowItem 52 = .ok (.getfield 31, 3) := by decide +kernel
theorem dX10_narrowItem_55 : decode cX10_narrowItem 55 = .ok (.iconst 1, 1) := by decide +kernel
theorem dX10_narrowItem_56 : decode cX10_narrowItem 56 = .ok (.iaload, 1) := by decide +kernel
theorem dX10_narrowItem_57 : decode cX10_narrowItem 57 = .ok (.iadd, 1) := by decide +kernel
theorem dX10_narrowItem_58 : decode cX10_narrowItem 58 = .ok (.aload_n 0, 1) := by decide +kernel
theorem dX10_narrowItem_59 : decode cX10_narrowItem 59 = .ok (.getfield 58, 3) := by decide +kernel
theorem dX10_narrowItem_62 : decode cX10_narrowItem 62 = .ok (.iconst 0, 1) := by decide +kernel
theorem dX10_narrowItem_63 : decode cX10_narrowItem 63 = .ok (.iaload, 1) := by decide +kernel
theorem dX10_narrowItem_64 : decode cX10_narrowItem 64 = .ok (.iastore, 1) := by decide +kernel
theorem dX10_narrowItem_65 : decode cX10_narrowItem 65 = .ok (.aload_n 0, 1) := by decide +kernel
theorem dX10_narrowItem_66 : decode cX10_narrowItem 66 = .ok (.getfield 37, 3) := by decide +kernel
theorem dX10_narrowItem_69 : decode cX10_narrowItem 69 = .ok (.iconst 3, 1) := by decide +kernel
theorem dX10_narrowItem_70 : decode cX10_narrowItem 70 = .ok (.aload_n 0, 1) := by decide +kernel
theorem dX10_narrowItem_71 : decode cX10_narrowItem 71 = .ok (.getfield 31, 3) := by decide +kernel
theorem dX10_narrowItem_74 : decode cX10_narrowItem 74 = .ok (.iconst 1, 1) := by decide +kernel
theorem dX10_narrowItem_75 : decode cX10_narrowItem 75 = .ok (.iaload, 1) := by decide +kernel
theorem dX10_narrowItem_76 : decode cX10_narrowItem 76 = .ok (.iadd, 1) := by decide +kernel
theorem dX10_narrowItem_77 : decode cX10_narrowItem 77 = .ok (.aload_n 0, 1) := by decide +kernel
theorem dX10_narrowItem_78 : decode cX10_narrowItem 78 = .ok (.getfield 58, 3) := by decide +kernel
theorem dX10_narrowItem_81 : decode cX10_narrowItem 81 = .ok (.iconst 1, 1) := by decide +kernel
theorem dX10_narrowItem_82 : decode cX10_narrowItem 82 = .ok (.iaload, 1) := by decide +kernel
theorem dX10_narrowItem_83 : decode cX10_narrowItem 83 = .ok (.iastore, 1) := by decide +kernel
theorem dX10_narrowItem_84 : decode cX10_narrowItem 84 = .ok (.aload_n 0, 1) := by decide +kernel
theorem dX10_narrowItem_85 : decode cX10_narrowItem 85 = .ok (.getfield 31, 3) := by decide +kernel
theorem dX10_narrowItem_88 : decode cX10_narrowItem 88 = .ok (.iconst 1, 1) := by decide +kernel
theorem dX10_narrowItem_89 : decode cX10_narrowItem 89 = .ok (.dup2, 1) := by decide +kernel
theorem dX10_narrowItem_90 : decode cX10_narrowItem 90 = .ok (.iaload, 1) := by decide +kernel
theorem dX10_narrowItem_91 : decode cX10_narrowItem 91 = .ok (.iconst 1, 1) := by decide +kernel
theorem dX10_narrowItem_92 : decode cX10_narrowItem 92 = .ok (.iadd, 1) := by decide +kernel
theorem dX10_narrowItem_93 : decode cX10_narrowItem 93 = .ok (.iastore, 1) := by decide +kernel
theorem dX10_narrowItem_94 : decode cX10_narrowItem 94 = .ok (.iconst 1, 1) := by decide +kernel
theorem dX10_narrowItem_95 : decode cX10_narrowItem 95 = .ok (.ireturn, 1) := by decide +kernel
theorem dX10_setLaw_0 : decode cX10_setLaw 0 = .ok (.aload_n 0, 1) := by decide +kernel
theorem dX10_setLaw_1 : decode cX10_setLaw 1 = .ok (.getfield 40, 3) := by decide +kernel
theorem dX10_setLaw_4 : decode cX10_setLaw 4 = .ok (.iconst 4, 1) := by decide +kernel
theorem dX10_setLaw_5 : decode cX10_setLaw 5 = .ok (.iload_n 1, 1) := by decide +kernel
theorem dX10_setLaw_6 : decode cX10_setLaw 6 = .ok (.iadd, 1) := by decide +kernel
theorem dX10_setLaw_7 : decode cX10_setLaw 7 = .ok (.iload_n 2, 1) := by decide +kernel
theorem dX10_setLaw_8 : decode cX10_setLaw 8 = .ok (.iastore, 1) := by decide +kernel
theorem dX10_setLaw_9 : decode cX10_setLaw 9 = .ok (.iload_n 2, 1) := by decide +kernel
theorem dX10_setLaw_10 : decode cX10_setLaw 10 = .ok (.i2l, 1) := by decide +kernel
theorem dX10_setLaw_11 : decode cX10_setLaw 11 = .ok (.lconst 1, 1) := by decide +kernel
theorem dX10_setLaw_12 : decode cX10_setLaw 12 = .ok (.iload_n 3, 1) := by decide +kernel
theorem dX10_setLaw_13 : decode cX10_setLaw 13 = .ok (.i2l, 1) := by decide +kernel
theorem dX10_setLaw_14 : decode cX10_setLaw 14 = .ok (.invokestatic 109, 3) := by decide +kernel
theorem dX10_setLaw_17 : decode cX10_setLaw 17 = .ok (.ireturn, 1) := by decide +kernel
theorem dX10_item_0 : decode cX10_item 0 = .ok (.aload_n 0, 1) := by decide +kernel
theorem dX10_item_1 : decode cX10_item 1 = .ok (.aload_n 0, 1) := by decide +kernel
theorem dX10_item_2 : decode cX10_item 2 = .ok (.getfield 117, 3) := by decide +kernel
theorem dX10_item_5 : decode cX10_item 5 = .ok (.invokevirtual 120, 3) := by decide +kernel
theorem dX10_item_8 : decode cX10_item 8 = .ok (.istore_n 1, 1) := by decide +kernel
theorem dX10_item_9 : decode cX10_item 9 = .ok (.aload_n 0, 1) := by decide +kernel
theorem dX10_item_10 : decode cX10_item 10 = .ok (.dup, 1) := by decide +kernel
theorem dX10_item_11 : decode cX10_item 11 = .ok (.getfield 117, 3) := by decide +kernel
theorem dX10_item_14 : decode cX10_item 14 = .ok (.iconst 1, 1) := by decide +kernel
theorem dX10_item_15 : decode cX10_item 15 = .ok (.iadd, 1) := by decide +kernel
theorem dX10_item_16 : decode cX10_item 16 = .ok (.putfield 117, 3) := by decide +kernel
theorem dX10_item_19 : decode cX10_item 19 = .ok (.iload_n 1, 1) := by decide +kernel
theorem dX10_item_20 : decode cX10_item 20 = .ok (.lookupswitch 167 #[(98, 52), (104, 92), (108, 122), (110, 57), (121, 62)], 52) := by decide +kernel
theorem dX10_item_72 : decode cX10_item 72 = .ok (.aload_n 0, 1) := by decide +kernel
theorem dX10_item_73 : decode cX10_item 73 = .ok (.invokevirtual 136, 3) := by decide +kernel
theorem dX10_item_76 : decode cX10_item 76 = .ok (.ireturn, 1) := by decide +kernel
theorem dX10_item_77 : decode cX10_item 77 = .ok (.aload_n 0, 1) := by decide +kernel
theorem dX10_item_78 : decode cX10_item 78 = .ok (.invokevirtual 140, 3) := by decide +kernel
theorem dX10_item_81 : decode cX10_item 81 = .ok (.ireturn, 1) := by decide +kernel
theorem dX10_item_82 : decode cX10_item 82 = .ok (.aload_n 0, 1) := by decide +kernel
theorem dX10_item_83 : decode cX10_item 83 = .ok (.iconst 1, 1) := by decide +kernel
theorem dX10_item_84 : decode cX10_item 84 = .ok (.invokevirtual 130, 3) := by decide +kernel
theorem dX10_item_87 : decode cX10_item 87 = .ok (.ifCond .eq 23, 3) := by decide +kernel
theorem dX10_item_90 : decode cX10_item 90 = .ok (.aload_n 0, 1) := by decide +kernel
theorem dX10_item_91 : decode cX10_item 91 = .ok (.iconst 0, 1) := by decide +kernel
theorem dX10_item_92 : decode cX10_item 92 = .ok (.aload_n 0, 1) := by decide +kernel
theorem dX10_item_93 : decode cX10_item 93 = .ok (.getfield 58, 3) := by decide +kernel
theorem dX10_item_96 : decode cX10_item 96 = .ok (.iconst 0, 1) := by decide +kernel
theorem dX10_item_97 : decode cX10_item 97 = .ok (.iaload, 1) := by decide +kernel
theorem dX10_item_98 : decode cX10_item 98 = .ok (.bipush 9, 2) := by decide +kernel
theorem dX10_item_100 : decode cX10_item 100 = .ok (.invokevirtual 143, 3) := by decide +kernel
theorem dX10_item_103 : decode cX10_item 103 = .ok (.ifCond .eq 7, 3) := by decide +kernel
theorem dX10_item_106 : decode cX10_item 106 = .ok (.iconst 1, 1) := by decide +kernel
theorem dX10_item_107 : decode cX10_item 107 = .ok (.goto 4, 3) := by decide +kernel
theorem dX10_item_110 : decode cX10_item 110 = .ok (.iconst 0, 1) := by decide +kernel
theorem dX10_item_111 : decode cX10_item 111 = .ok (.ireturn, 1) := by decide +kernel
theorem dX10_item_112 : decode cX10_item 112 = .ok (.aload_n 0, 1) := by decide +kernel
theorem dX10_item_113 : decode cX10_item 113 = .ok (.iconst 1, 1) := by decide +kernel
theorem dX10_item_114 : decode cX10_item 114 = .ok (.invokevirtual 130, 3) := by decide +kernel
theorem dX10_item_117 : decode cX10_item 117 = .ok (.ifCond .eq 23, 3) := by decide +kernel
theorem dX10_item_120 : decode cX10_item 120 = .ok (.aload_n 0, 1) := by decide +kernel
theorem dX10_item_121 : decode cX10_item 121 = .ok (.iconst 1, 1) := by decide +kernel
theorem dX10_item_122 : decode cX10_item 122 = .ok (.aload_n 0, 1) := by decide +kernel
theorem dX10_item_123 : decode cX10_item 123 = .ok (.getfield 58, 3) := by decide +kernel
theorem dX10_item_126 : decode cX10_item 126 = .ok (.iconst 0, 1) := by decide +kernel
theorem dX10_item_127 : decode cX10_item 127 = .ok (.iaload, 1) := by decide +kernel
theorem dX10_item_128 : decode cX10_item 128 = .ok (.bipush 30, 2) := by decide +kernel
theorem dX10_item_130 : decode cX10_item 130 = .ok (.invokevirtual 143, 3) := by decide +kernel
theorem dX10_item_133 : decode cX10_item 133 = .ok (.ifCond .eq 7, 3) := by decide +kernel
theorem dX10_item_136 : decode cX10_item 136 = .ok (.iconst 1, 1) := by decide +kernel
theorem dX10_item_137 : decode cX10_item 137 = .ok (.goto 4, 3) := by decide +kernel
theorem dX10_item_140 : decode cX10_item 140 = .ok (.iconst 0, 1) := by decide +kernel
theorem dX10_item_141 : decode cX10_item 141 = .ok (.ireturn, 1) := by decide +kernel
theorem dX10_item_142 : decode cX10_item 142 = .ok (.aload_n 0, 1) := by decide +kernel
theorem dX10_item_143 : decode cX10_item 143 = .ok (.iconst 2, 1) := by decide +kernel
theorem dX10_item_144 : decode cX10_item 144 = .ok (.invokevirtual 130, 3) := by decide +kernel
theorem dX10_item_147 : decode cX10_item 147 = .ok (.ifCond .eq 38, 3) := by decide +kernel
theorem dX10_item_150 : decode cX10_item 150 = .ok (.aload_n 0, 1) := by decide +kernel
theorem dX10_item_151 : decode cX10_item 151 = .ok (.iconst 2, 1) := by decide +kernel
theorem dX10_item_152 : decode cX10_item 152 = .ok (.aload_n 0, 1) := by decide +kernel
theorem dX10_item_153 : decode cX10_item 153 = .ok (.getfield 58, 3) := by decide +kernel
theorem dX10_item_156 : decode cX10_item 156 = .ok (.iconst 0, 1) := by decide +kernel
theorem dX10_item_157 : decode cX10_item 157 = .ok (.iaload, 1) := by decide +kernel
theorem dX10_item_158 : decode cX10_item 158 = .ok (.iconst 5, 1) := by decide +kernel
theorem dX10_item_159 : decode cX10_item 159 = .ok (.invokevirtual 143, 3) := by decide +kernel
theorem dX10_item_162 : decode cX10_item 162 = .ok (.ifCond .eq 23, 3) := by decide +kernel
theorem dX10_item_165 : decode cX10_item 165 = .ok (.aload_n 0, 1) := by decide +kernel
theorem dX10_item_166 : decode cX10_item 166 = .ok (.iconst 3, 1) := by decide +kernel
theorem dX10_item_167 : decode cX10_item 167 = .ok (.aload_n 0, 1) := by decide +kernel
theorem dX10_item_168 : decode cX10_item 168 = .ok (.getfield 58, 3) := by decide +kernel
theorem dX10_item_171 : decode cX10_item 171 = .ok (.iconst 1, 1) := by decide +kernel
theorem dX10_item_172 : decode cX10_item 172 = .ok (.iaload, 1) := by decide +kernel
theorem dX10_item_173 : decode cX10_item 173 = .ok (.bipush 9, 2) := by decide +kernel
theorem dX10_item_175 : decode cX10_item 175 = .ok (.invokevirtual 143, 3) := by decide +kernel
theorem dX10_item_178 : decode cX10_item 178 = .ok (.ifCond .eq 7, 3) := by decide +kernel
theorem dX10_item_181 : decode cX10_item 181 = .ok (.iconst 1, 1) := by decide +kernel
theorem dX10_item_182 : decode cX10_item 182 = .ok (.goto 4, 3) := by decide +kernel
theorem dX10_item_185 : decode cX10_item 185 = .ok (.iconst 0, 1) := by decide +kernel
theorem dX10_item_186 : decode cX10_item 186 = .ok (.ireturn, 1) := by decide +kernel
theorem dX10_item_187 : decode cX10_item 187 = .ok (.iconst 0, 1) := by decide +kernel
theorem dX10_item_188 : decode cX10_item 188 = .ok (.ireturn, 1) := by decide +kernel
theorem dX10_readAll_0 : decode cX10_readAll 0 = .ok (.aload_n 0, 1) := by decide +kernel
theorem dX10_readAll_1 : decode cX10_readAll 1 = .ok (.iconst 1, 1) := by decide +kernel
theorem dX10_readAll_2 : decode cX10_readAll 2 = .ok (.invokevirtual 94, 3) := by decide +kernel
theorem dX10_readAll_5 : decode cX10_readAll 5 = .ok (.aload_n 0, 1) := by decide +kernel
theorem dX10_readAll_6 : decode cX10_readAll 6 = .ok (.iconst 0, 1) := by decide +kernel
theorem dX10_readAll_7 : decode cX10_readAll 7 = .ok (.putfield 117, 3) := by decide +kernel
theorem dX10_readAll_10 : decode cX10_readAll 10 = .ok (.aload_n 0, 1) := by decide +kernel
theorem dX10_readAll_11 : decode cX10_readAll 11 = .ok (.getfield 117, 3) := by decide +kernel
theorem dX10_readAll_14 : decode cX10_readAll 14 = .ok (.aload_n 0, 1) := by decide +kernel
theorem dX10_readAll_15 : decode cX10_readAll 15 = .ok (.getfield 113, 3) := by decide +kernel
theorem dX10_readAll_18 : decode cX10_readAll 18 = .ok (.if_icmp .ge 20, 3) := by decide +kernel
theorem dX10_readAll_21 : decode cX10_readAll 21 = .ok (.aload_n 0, 1) := by decide +kernel
theorem dX10_readAll_22 : decode cX10_readAll 22 = .ok (.getfield 117, 3) := by decide +kernel
theorem dX10_readAll_25 : decode cX10_readAll 25 = .ok (.istore_n 1, 1) := by decide +kernel
theorem dX10_readAll_26 : decode cX10_readAll 26 = .ok (.aload_n 0, 1) := by decide +kernel
theorem dX10_readAll_27 : decode cX10_readAll 27 = .ok (.invokevirtual 147, 3) := by decide +kernel
theorem dX10_readAll_30 : decode cX10_readAll 30 = .ok (.ifCond .ne 5, 3) := by decide +kernel
theorem dX10_readAll_33 : decode cX10_readAll 33 = .ok (.iload_n 1, 1) := by decide +kernel
theorem dX10_readAll_34 : decode cX10_readAll 34 = .ok (.ireturn, 1) := by decide +kernel
theorem dX10_readAll_35 : decode cX10_readAll 35 = .ok (.goto (-25), 3) := by decide +kernel
theorem dX10_readAll_38 : decode cX10_readAll 38 = .ok (.bipush (-4), 2) := by decide +kernel
theorem dX10_readAll_40 : decode cX10_readAll 40 = .ok (.ireturn, 1) := by decide +kernel
theorem dX10_fault_0 : decode cX10_fault 0 = .ok (.aload_n 0, 1) := by decide +kernel
theorem dX10_fault_1 : decode cX10_fault 1 = .ok (.invokevirtual 150, 3) := by decide +kernel
theorem dX10_fault_4 : decode cX10_fault 4 = .ok (.ireturn, 1) := by decide +kernel
theorem dX10_lay_0 : decode cX10_lay 0 = .ok (.aload_n 0, 1) := by decide +kernel
theorem dX10_lay_1 : decode cX10_lay 1 = .ok (.invokevirtual 150, 3) := by decide +kernel
theorem dX10_lay_4 : decode cX10_lay 4 = .ok (.bipush (-4), 2) := by decide +kernel
theorem dX10_lay_6 : decode cX10_lay 6 = .ok (.if_icmp .ne 12, 3) := by decide +kernel
theorem dX10_lay_9 : decode cX10_lay 9 = .ok (.aload_n 0, 1) := by decide +kernel
theorem dX10_lay_10 : decode cX10_lay 10 = .ok (.getfield 13, 3) := by decide +kernel
theorem dX10_lay_13 : decode cX10_lay 13 = .ok (.iconst 1, 1) := by decide +kernel
theorem dX10_lay_14 : decode cX10_lay 14 = .ok (.iaload, 1) := by decide +kernel
theorem dX10_lay_15 : decode cX10_lay 15 = .ok (.ifCond .ne 6, 3) := by decide +kernel
theorem dX10_lay_18 : decode cX10_lay 18 = .ok (.bipush (-2), 2) := by decide +kernel
theorem dX10_lay_20 : decode cX10_lay 20 = .ok (.ireturn, 1) := by decide +kernel
theorem dX10_lay_21 : decode cX10_lay 21 = .ok (.aload_n 0, 1) := by decide +kernel
theorem dX10_lay_22 : decode cX10_lay 22 = .ok (.getfield 13, 3) := by decide +kernel
theorem dX10_lay_25 : decode cX10_lay 25 = .ok (.iconst 0, 1) := by decide +kernel
theorem dX10_lay_26 : decode cX10_lay 26 = .ok (.aload_n 0, 1) := by decide +kernel
theorem dX10_lay_27 : decode cX10_lay 27 = .ok (.getfield 13, 3) := by decide +kernel
theorem dX10_lay_30 : decode cX10_lay 30 = .ok (.iconst 1, 1) := by decide +kernel
theorem dX10_lay_31 : decode cX10_lay 31 = .ok (.iaload, 1) := by decide +kernel
theorem dX10_lay_32 : decode cX10_lay 32 = .ok (.iastore, 1) := by decide +kernel
theorem dX10_lay_33 : decode cX10_lay 33 = .ok (.aload_n 0, 1) := by decide +kernel
theorem dX10_lay_34 : decode cX10_lay 34 = .ok (.getfield 31, 3) := by decide +kernel
theorem dX10_lay_37 : decode cX10_lay 37 = .ok (.iconst 0, 1) := by decide +kernel
theorem dX10_lay_38 : decode cX10_lay 38 = .ok (.aload_n 0, 1) := by decide +kernel
theorem dX10_lay_39 : decode cX10_lay 39 = .ok (.getfield 31, 3) := by decide +kernel
theorem dX10_lay_42 : decode cX10_lay 42 = .ok (.iconst 1, 1) := by decide +kernel
theorem dX10_lay_43 : decode cX10_lay 43 = .ok (.iaload, 1) := by decide +kernel
theorem dX10_lay_44 : decode cX10_lay 44 = .ok (.iastore, 1) := by decide +kernel
theorem dX10_lay_45 : decode cX10_lay 45 = .ok (.iconst 0, 1) := by decide +kernel
theorem dX10_lay_46 : decode cX10_lay 46 = .ok (.istore_n 1, 1) := by decide +kernel
theorem dX10_lay_47 : decode cX10_lay 47 = .ok (.iload_n 1, 1) := by decide +kernel
theorem dX10_lay_48 : decode cX10_lay 48 = .ok (.bipush 6, 2) := by decide +kernel
theorem dX10_lay_50 : decode cX10_lay 50 = .ok (.if_icmp .ge 84, 3) := by decide +kernel
theorem dX10_lay_53 : decode cX10_lay 53 = .ok (.aload_n 0, 1) := by decide +kernel
theorem dX10_lay_54 : decode cX10_lay 54 = .ok (.getfield 16, 3) := by decide +kernel
theorem dX10_lay_57 : decode cX10_lay 57 = .ok (.iload_n 1, 1) := by decide +kernel
theorem dX10_lay_58 : decode cX10_lay 58 = .ok (.aload_n 0, 1) := by decide +kernel
theorem dX10_lay_59 : decode cX10_lay 59 = .ok (.getfield 16, 3) := by decide +kernel
theorem dX10_lay_62 : decode cX10_lay 62 = .ok (.bipush 6, 2) := by decide +kernel
theorem dX10_lay_64 : decode cX10_lay 64 = .ok (.iload_n 1, 1) := by decide +kernel
theorem dX10_lay_65 : decode cX10_lay 65 = .ok (.iadd, 1) := by decide +kernel
theorem dX10_lay_66 : decode cX10_lay 66 = .ok (.iaload, 1) := by decide +kernel
theorem dX10_lay_67 : decode cX10_lay 67 = .ok (.iastore, 1) := by decide +kernel
theorem dX10_lay_68 : decode cX10_lay 68 = .ok (.aload_n 0, 1) := by decide +kernel
theorem dX10_lay_69 : decode cX10_lay 69 = .ok (.getfield 19, 3) := by decide +kernel
theorem dX10_lay_72 : decode cX10_lay 72 = .ok (.iload_n 1, 1) := by decide +kernel
theorem dX10_lay_73 : decode cX10_lay 73 = .ok (.aload_n 0, 1) := by decide +kernel
theorem dX10_lay_74 : decode cX10_lay 74 = .ok (.getfield 19, 3) := by decide +kernel
theorem dX10_lay_77 : decode cX10_lay 77 = .ok (.bipush 6, 2) := by decide +kernel
theorem dX10_lay_79 : decode cX10_lay 79 = .ok (.iload_n 1, 1) := by decide +kernel
theorem dX10_lay_80 : decode cX10_lay 80 = .ok (.iadd, 1) := by decide +kernel
theorem dX10_lay_81 : decode cX10_lay 81 = .ok (.iaload, 1) := by decide +kernel
theorem dX10_lay_82 : decode cX10_lay 82 = .ok (.iastore, 1) := by decide +kernel
theorem dX10_lay_83 : decode cX10_lay 83 = .ok (.aload_n 0, 1) := by decide +kernel
theorem dX10_lay_84 : decode cX10_lay 84 = .ok (.getfield 22, 3) := by decide +kernel
theorem dX10_lay_87 : decode cX10_lay 87 = .ok (.iload_n 1, 1) := by decide +kernel
theorem dX10_lay_88 : decode cX10_lay 88 = .ok (.aload_n 0, 1) := by decide +kernel
theorem dX10_lay_89 : decode cX10_lay 89 = .ok (.getfield 22, 3) := by decide +kernel
theorem dX10_lay_92 : decode cX10_lay 92 = .ok (.bipush 6, 2) := by decide +kernel
theorem dX10_lay_94 : decode cX10_lay 94 = .ok (.iload_n 1, 1) := by decide +kernel
theorem dX10_lay_95 : decode cX10_lay 95 = .ok (.iadd, 1) := by decide +kernel
theorem dX10_lay_96 : decode cX10_lay 96 = .ok (.iaload, 1) := by decide +kernel
theorem dX10_lay_97 : decode cX10_lay 97 = .ok (.iastore, 1) := by decide +kernel
theorem dX10_lay_98 : decode cX10_lay 98 = .ok (.aload_n 0, 1) := by decide +kernel
theorem dX10_lay_99 : decode cX10_lay 99 = .ok (.getfield 25, 3) := by decide +kernel
theorem dX10_lay_102 : decode cX10_lay 102 = .ok (.iload_n 1, 1) := by decide +kernel
theorem dX10_lay_103 : decode cX10_lay 103 = .ok (.aload_n 0, 1) := by decide +kernel
theorem dX10_lay_104 : decode cX10_lay 104 = .ok (.getfield 25, 3) := by decide +kernel
theorem dX10_lay_107 : decode cX10_lay 107 = .ok (.bipush 6, 2) := by decide +kernel
theorem dX10_lay_109 : decode cX10_lay 109 = .ok (.iload_n 1, 1) := by decide +kernel
theorem dX10_lay_110 : decode cX10_lay 110 = .ok (.iadd, 1) := by decide +kernel
theorem dX10_lay_111 : decode cX10_lay 111 = .ok (.iaload, 1) := by decide +kernel
theorem dX10_lay_112 : decode cX10_lay 112 = .ok (.iastore, 1) := by decide +kernel
theorem dX10_lay_113 : decode cX10_lay 113 = .ok (.aload_n 0, 1) := by decide +kernel
theorem dX10_lay_114 : decode cX10_lay 114 = .ok (.getfield 28, 3) := by decide +kernel
theorem dX10_lay_117 : decode cX10_lay 117 = .ok (.iload_n 1, 1) := by decide +kernel
theorem dX10_lay_118 : decode cX10_lay 118 = .ok (.aload_n 0, 1) := by decide +kernel
theorem dX10_lay_119 : decode cX10_lay 119 = .ok (.getfield 28, 3) := by decide +kernel
theorem dX10_lay_122 : decode cX10_lay 122 = .ok (.bipush 6, 2) := by decide +kernel
theorem dX10_lay_124 : decode cX10_lay 124 = .ok (.iload_n 1, 1) := by decide +kernel
theorem dX10_lay_125 : decode cX10_lay 125 = .ok (.iadd, 1) := by decide +kernel
theorem dX10_lay_126 : decode cX10_lay 126 = .ok (.iaload, 1) := by decide +kernel
theorem dX10_lay_127 : decode cX10_lay 127 = .ok (.iastore, 1) := by decide +kernel
theorem dX10_lay_128 : decode cX10_lay 128 = .ok (.iinc 1 1, 3) := by decide +kernel
theorem dX10_lay_131 : decode cX10_lay 131 = .ok (.goto (-84), 3) := by decide +kernel
theorem dX10_lay_134 : decode cX10_lay 134 = .ok (.iconst 0, 1) := by decide +kernel
theorem dX10_lay_135 : decode cX10_lay 135 = .ok (.istore_n 1, 1) := by decide +kernel
theorem dX10_lay_136 : decode cX10_lay 136 = .ok (.iload_n 1, 1) := by decide +kernel
theorem dX10_lay_137 : decode cX10_lay 137 = .ok (.iconst 3, 1) := by decide +kernel
theorem dX10_lay_138 : decode cX10_lay 138 = .ok (.if_icmp .ge 37, 3) := by decide +kernel
theorem dX10_lay_141 : decode cX10_lay 141 = .ok (.aload_n 0, 1) := by decide +kernel
theorem dX10_lay_142 : decode cX10_lay 142 = .ok (.getfield 34, 3) := by decide +kernel
theorem dX10_lay_145 : decode cX10_lay 145 = .ok (.iload_n 1, 1) := by decide +kernel
theorem dX10_lay_146 : decode cX10_lay 146 = .ok (.aload_n 0, 1) := by decide +kernel
theorem dX10_lay_147 : decode cX10_lay 147 = .ok (.getfield 34, 3) := by decide +kernel
theorem dX10_lay_150 : decode cX10_lay 150 = .ok (.iconst 3, 1) := by decide +kernel
theorem dX10_lay_151 : decode cX10_lay 151 = .ok (.iload_n 1, 1) := by decide +kernel
theorem dX10_lay_152 : decode cX10_lay 152 = .ok (.iadd, 1) := by decide +kernel
theorem dX10_lay_153 : decode cX10_lay 153 = .ok (.iaload, 1) := by decide +kernel
theorem dX10_lay_154 : decode cX10_lay 154 = .ok (.iastore, 1) := by decide +kernel
theorem dX10_lay_155 : decode cX10_lay 155 = .ok (.aload_n 0, 1) := by decide +kernel
theorem dX10_lay_156 : decode cX10_lay 156 = .ok (.getfield 37, 3) := by decide +kernel
theorem dX10_lay_159 : decode cX10_lay 159 = .ok (.iload_n 1, 1) := by decide +kernel
theorem dX10_lay_160 : decode cX10_lay 160 = .ok (.aload_n 0, 1) := by decide +kernel
theorem dX10_lay_161 : decode cX10_lay 161 = .ok (.getfield 37, 3) := by decide +kernel
theorem dX10_lay_164 : decode cX10_lay 164 = .ok (.iconst 3, 1) := by decide +kernel
theorem dX10_lay_165 : decode cX10_lay 165 = .ok (.iload_n 1, 1) := by decide +kernel
theorem dX10_lay_166 : decode cX10_lay 166 = .ok (.iadd, 1) := by decide +kernel
theorem dX10_lay_167 : decode cX10_lay 167 = .ok (.iaload, 1) := by decide +kernel
theorem dX10_lay_168 : decode cX10_lay 168 = .ok (.iastore, 1) := by decide +kernel
theorem dX10_lay_169 : decode cX10_lay 169 = .ok (.iinc 1 1, 3) := by decide +kernel
theorem dX10_lay_172 : decode cX10_lay 172 = .ok (.goto (-36), 3) := by decide +kernel
theorem dX10_lay_175 : decode cX10_lay 175 = .ok (.iconst 0, 1) := by decide +kernel
theorem dX10_lay_176 : decode cX10_lay 176 = .ok (.istore_n 1, 1) := by decide +kernel
theorem dX10_lay_177 : decode cX10_lay 177 = .ok (.iload_n 1, 1) := by decide +kernel
theorem dX10_lay_178 : decode cX10_lay 178 = .ok (.iconst 4, 1) := by decide +kernel
theorem dX10_lay_179 : decode cX10_lay 179 = .ok (.if_icmp .ge 23, 3) := by decide +kernel
theorem dX10_lay_182 : decode cX10_lay 182 = .ok (.aload_n 0, 1) := by decide +kernel
theorem dX10_lay_183 : decode cX10_lay 183 = .ok (.getfield 40, 3) := by decide +kernel
theorem dX10_lay_186 : decode cX10_lay 186 = .ok (.iload_n 1, 1) := by decide +kernel
theorem dX10_lay_187 : decode cX10_lay 187 = .ok (.aload_n 0, 1) := by decide +kernel
theorem dX10_lay_188 : decode cX10_lay 188 = .ok (.getfield 40, 3) := by decide +kernel
theorem dX10_lay_191 : decode cX10_lay 191 = .ok (.iconst 4, 1) := by decide +kernel
theorem dX10_lay_192 : decode cX10_lay 192 = .ok (.iload_n 1, 1) := by decide +kernel
theorem dX10_lay_193 : decode cX10_lay 193 = .ok (.iadd, 1) := by decide +kernel
theorem dX10_lay_194 : decode cX10_lay 194 = .ok (.iaload, 1) := by decide +kernel
theorem dX10_lay_195 : decode cX10_lay 195 = .ok (.iastore, 1) := by decide +kernel
theorem dX10_lay_196 : decode cX10_lay 196 = .ok (.iinc 1 1, 3) := by decide +kernel
theorem dX10_lay_199 : decode cX10_lay 199 = .ok (.goto (-22), 3) := by decide +kernel
theorem dX10_lay_202 : decode cX10_lay 202 = .ok (.aload_n 0, 1) := by decide +kernel
theorem dX10_lay_203 : decode cX10_lay 203 = .ok (.invokevirtual 102, 3) := by decide +kernel
theorem dX10_lay_206 : decode cX10_lay 206 = .ok (.aload_n 0, 1) := by decide +kernel
theorem dX10_lay_207 : decode cX10_lay 207 = .ok (.getfield 13, 3) := by decide +kernel
theorem dX10_lay_210 : decode cX10_lay 210 = .ok (.iconst 0, 1) := by decide +kernel
theorem dX10_lay_211 : decode cX10_lay 211 = .ok (.iaload, 1) := by decide +kernel
theorem dX10_lay_212 : decode cX10_lay 212 = .ok (.ireturn, 1) := by decide +kernel
theorem dX10_begin_0 : decode cX10_begin 0 = .ok (.iconst 0, 1) := by decide +kernel
theorem dX10_begin_1 : decode cX10_begin 1 = .ok (.istore_n 1, 1) := by decide +kernel
theorem dX10_begin_2 : decode cX10_begin 2 = .ok (.iload_n 1, 1) := by decide +kernel
theorem dX10_begin_3 : decode cX10_begin 3 = .ok (.bipush 6, 2) := by decide +kernel
theorem dX10_begin_5 : decode cX10_begin 5 = .ok (.if_icmp .ge 31, 3) := by decide +kernel
theorem dX10_begin_8 : decode cX10_begin 8 = .ok (.aload_n 0, 1) := by decide +kernel
theorem dX10_begin_9 : decode cX10_begin 9 = .ok (.getfield 43, 3) := by decide +kernel
theorem dX10_begin_12 : decode cX10_begin 12 = .ok (.iload_n 1, 1) := by decide +kernel
theorem dX10_begin_13 : decode cX10_begin 13 = .ok (.aload_n 0, 1) := by decide +kernel
theorem dX10_begin_14 : decode cX10_begin 14 = .ok (.getfield 25, 3) := by decide +kernel
theorem dX10_begin_17 : decode cX10_begin 17 = .ok (.iload_n 1, 1) := by decide +kernel
theorem dX10_begin_18 : decode cX10_begin 18 = .ok (.iaload, 1) := by decide +kernel
theorem dX10_begin_19 : decode cX10_begin 19 = .ok (.iastore, 1) := by decide +kernel
theorem dX10_begin_20 : decode cX10_begin 20 = .ok (.aload_n 0, 1) := by decide +kernel
theorem dX10_begin_21 : decode cX10_begin 21 = .ok (.getfield 43, 3) := by decide +kernel
theorem dX10_begin_24 : decode cX10_begin 24 = .ok (.bipush 6, 2) := by decide +kernel
theorem dX10_begin_26 : decode cX10_begin 26 = .ok (.iload_n 1, 1) := by decide +kernel
theorem dX10_begin_27 : decode cX10_begin 27 = .ok (.iadd, 1) := by decide +kernel
theorem dX10_begin_28 : decode cX10_begin 28 = .ok (.iconst 0, 1) := by decide +kernel
theorem dX10_begin_29 : decode cX10_begin 29 = .ok (.iastore, 1) := by decide +kernel
theorem dX10_begin_30 : decode cX10_begin 30 = .ok (.iinc 1 1, 3) := by decide +kernel
theorem dX10_begin_33 : decode cX10_begin 33 = .ok (.goto (-31), 3) := by decide +kernel
theorem dX10_begin_36 : decode cX10_begin 36 = .ok (.aload_n 0, 1) := by decide +kernel
theorem dX10_begin_37 : decode cX10_begin 37 = .ok (.iconst 0, 1) := by decide +kernel
theorem dX10_begin_38 : decode cX10_begin 38 = .ok (.putfield 154, 3) := by decide +kernel
theorem dX10_begin_41 : decode cX10_begin 41 = .ok (.aload_n 0, 1) := by decide +kernel
theorem dX10_begin_42 : decode cX10_begin 42 = .ok (.iconst 0, 1) := by decide +kernel
theorem dX10_begin_43 : decode cX10_begin 43 = .ok (.putfield 157, 3) := by decide +kernel
theorem dX10_begin_46 : decode cX10_begin 46 = .ok (.aload_n 0, 1) := by decide +kernel
theorem dX10_begin_47 : decode cX10_begin 47 = .ok (.iconst 0, 1) := by decide +kernel
theorem dX10_begin_48 : decode cX10_begin 48 = .ok (.putfield 160, 3) := by decide +kernel
theorem dX10_begin_51 : decode cX10_begin 51 = .ok (.return_, 1) := by decide +kernel
theorem dX10_isBoat_0 : decode cX10_isBoat 0 = .ok (.iload_n 1, 1) := by decide +kernel
theorem dX10_isBoat_1 : decode cX10_isBoat 1 = .ok (.i2l, 1) := by decide +kernel
theorem dX10_isBoat_2 : decode cX10_isBoat 2 = .ok (.lconst 0, 1) := by decide +kernel
theorem dX10_isBoat_3 : decode cX10_isBoat 3 = .ok (.aload_n 0, 1) := by decide +kernel
theorem dX10_isBoat_4 : decode cX10_isBoat 4 = .ok (.getfield 13, 3) := by decide +kernel
theorem dX10_isBoat_7 : decode cX10_isBoat 7 = .ok (.iconst 0, 1) := by decide +kernel
theorem dX10_isBoat_8 : decode cX10_isBoat 8 = .ok (.iaload, 1) := by decide +kernel
theorem dX10_isBoat_9 : decode cX10_isBoat 9 = .ok (.iconst 1, 1) := by decide +kernel
theorem dX10_isBoat_10 : decode cX10_isBoat 10 = .ok (.isub, 1) := by decide +kernel
theorem dX10_isBoat_11 : decode cX10_isBoat 11 = .ok (.i2l, 1) := by decide +kernel
theorem dX10_isBoat_12 : decode cX10_isBoat 12 = .ok (.invokestatic 109, 3) := by decide +kernel
theorem dX10_isBoat_15 : decode cX10_isBoat 15 = .ok (.ireturn, 1) := by decide +kernel
theorem dX10_areTwo_0 : decode cX10_areTwo 0 = .ok (.aload_n 0, 1) := by decide +kernel
theorem dX10_areTwo_1 : decode cX10_areTwo 1 = .ok (.iload_n 1, 1) := by decide +kernel
theorem dX10_areTwo_2 : decode cX10_areTwo 2 = .ok (.invokevirtual 163, 3) := by decide +kernel
theorem dX10_areTwo_5 : decode cX10_areTwo 5 = .ok (.ifCond .eq 20, 3) := by decide +kernel
theorem dX10_areTwo_8 : decode cX10_areTwo 8 = .ok (.aload_n 0, 1) := by decide +kernel
theorem dX10_areTwo_9 : decode cX10_areTwo 9 = .ok (.iload_n 2, 1) := by decide +kernel
theorem dX10_areTwo_10 : decode cX10_areTwo 10 = .ok (.invokevirtual 163, 3) := by decide +kernel
theorem dX10_areTwo_13 : decode cX10_areTwo 13 = .ok (.ifCond .eq 12, 3) := by decide +kernel
theorem dX10_areTwo_16 : decode cX10_areTwo 16 = .ok (.iload_n 1, 1) := by decide +kernel
theorem dX10_areTwo_17 : decode cX10_areTwo 17 = .ok (.iload_n 2, 1) := by decide +kernel
theorem dX10_areTwo_18 : decode cX10_areTwo 18 = .ok (.if_icmp .eq 7, 3) := by decide +kernel
theorem dX10_areTwo_21 : decode cX10_areTwo 21 = .ok (.iconst 1, 1) := by decide +kernel
theorem dX10_areTwo_22 : decode cX10_areTwo 22 = .ok (.goto 4, 3) := by decide +kernel
theorem dX10_areTwo_25 : decode cX10_areTwo 25 = .ok (.iconst 0, 1) := by decide +kernel
theorem dX10_areTwo_26 : decode cX10_areTwo 26 = .ok (.ireturn, 1) := by decide +kernel
theorem dX10_isRule_0 : decode cX10_isRule 0 = .ok (.iload_n 0, 1) := by decide +kernel
theorem dX10_isRule_1 : decode cX10_isRule 1 = .ok (.i2l, 1) := by decide +kernel
theorem dX10_isRule_2 : decode cX10_isRule 2 = .ok (.lconst 0, 1) := by decide +kernel
theorem dX10_isRule_3 : decode cX10_isRule 3 = .ok (.ldc2_w 134, 3) := by decide +kernel
theorem dX10_isRule_6 : decode cX10_isRule 6 = .ok (.invokestatic 109, 3) := by decide +kernel
theorem dX10_isRule_9 : decode cX10_isRule 9 = .ok (.ireturn, 1) := by decide +kernel
theorem dX10_boat_0 : decode cX10_boat 0 = .ok (.aload_n 0, 1) := by decide +kernel
theorem dX10_boat_1 : decode cX10_boat 1 = .ok (.iload_n 1, 1) := by decide +kernel
theorem dX10_boat_2 : decode cX10_boat 2 = .ok (.invokevirtual 163, 3) := by decide +kernel
theorem dX10_boat_5 : decode cX10_boat 5 = .ok (.ifCond .eq 15, 3) := by decide +kernel
theorem dX10_boat_8 : decode cX10_boat 8 = .ok (.iload_n 2, 1) := by decide +kernel
theorem dX10_boat_9 : decode cX10_boat 9 = .ok (.i2l, 1) := by decide +kernel
theorem dX10_boat_10 : decode cX10_boat 10 = .ok (.lconst 0, 1) := by decide +kernel
theorem dX10_boat_11 : decode cX10_boat 11 = .ok (.ldc2_w 166, 3) := by decide +kernel
theorem dX10_boat_14 : decode cX10_boat 14 = .ok (.invokestatic 109, 3) := by decide +kernel
theorem dX10_boat_17 : decode cX10_boat 17 = .ok (.ifCond .ne 5, 3) := by decide +kernel
theorem dX10_boat_20 : decode cX10_boat 20 = .ok (.iconst (-1), 1) := by decide +kernel
theorem dX10_boat_21 : decode cX10_boat 21 = .ok (.ireturn, 1) := by decide +kernel
theorem dX10_boat_22 : decode cX10_boat 22 = .ok (.iload_n 2, 1) := by decide +kernel
theorem dX10_boat_23 : decode cX10_boat 23 = .ok (.tableswitch 68 0 4 #[33, 40, 47, 54, 61], 33) := by decide +kernel
theorem dX10_boat_56 : decode cX10_boat 56 = .ok (.aload_n 0, 1) := by decide +kernel
theorem dX10_boat_57 : decode cX10_boat 57 = .ok (.getfield 16, 3) := by decide +kernel
theorem dX10_boat_60 : decode cX10_boat 60 = .ok (.iload_n 1, 1) := by decide +kernel
theorem dX10_boat_61 : decode cX10_boat 61 = .ok (.iaload, 1) := by decide +kernel
theorem dX10_boat_62 : decode cX10_boat 62 = .ok (.ireturn, 1) := by decide +kernel
theorem dX10_boat_63 : decode cX10_boat 63 = .ok (.aload_n 0, 1) := by decide +kernel
theorem dX10_boat_64 : decode cX10_boat 64 = .ok (.getfield 19, 3) := by decide +kernel
theorem dX10_boat_67 : decode cX10_boat 67 = .ok (.iload_n 1, 1) := by decide +kernel
theorem dX10_boat_68 : decode cX10_boat 68 = .ok (.iaload, 1) := by decide +kernel
theorem dX10_boat_69 : decode cX10_boat 69 = .ok (.ireturn, 1) := by decide +kernel
theorem dX10_boat_70 : decode cX10_boat 70 = .ok (.aload_n 0, 1) := by decide +kernel
theorem dX10_boat_71 : decode cX10_boat 71 = .ok (.getfield 22, 3) := by decide +kernel
theorem dX10_boat_74 : decode cX10_boat 74 = .ok (.iload_n 1, 1) := by decide +kernel
theorem dX10_boat_75 : decode cX10_boat 75 = .ok (.iaload, 1) := by decide +kernel
theorem dX10_boat_76 : decode cX10_boat 76 = .ok (.ireturn, 1) := by decide +kernel
theorem dX10_boat_77 : decode cX10_boat 77 = .ok (.aload_n 0, 1) := by decide +kernel
theorem dX10_boat_78 : decode cX10_boat 78 = .ok (.getfield 43, 3) := by decide +kernel
theorem dX10_boat_81 : decode cX10_boat 81 = .ok (.iload_n 1, 1) := by decide +kernel
theorem dX10_boat_82 : decode cX10_boat 82 = .ok (.iaload, 1) := by decide +kernel
theorem dX10_boat_83 : decode cX10_boat 83 = .ok (.ireturn, 1) := by decide +kernel
theorem dX10_boat_84 : decode cX10_boat 84 = .ok (.aload_n 0, 1) := by decide +kernel
theorem dX10_boat_85 : decode cX10_boat 85 = .ok (.getfield 28, 3) := by decide +kernel
theorem dX10_boat_88 : decode cX10_boat 88 = .ok (.iload_n 1, 1) := by decide +kernel
theorem dX10_boat_89 : decode cX10_boat 89 = .ok (.iaload, 1) := by decide +kernel
theorem dX10_boat_90 : decode cX10_boat 90 = .ok (.ireturn, 1) := by decide +kernel
theorem dX10_boat_91 : decode cX10_boat 91 = .ok (.aload_n 0, 1) := by decide +kernel
theorem dX10_boat_92 : decode cX10_boat 92 = .ok (.getfield 43, 3) := by decide +kernel
theorem dX10_boat_95 : decode cX10_boat 95 = .ok (.bipush 6, 2) := by decide +kernel
theorem dX10_boat_97 : decode cX10_boat 97 = .ok (.iload_n 1, 1) := by decide +kernel
theorem dX10_boat_98 : decode cX10_boat 98 = .ok (.iadd, 1) := by decide +kernel
theorem dX10_boat_99 : decode cX10_boat 99 = .ok (.iaload, 1) := by decide +kernel
theorem dX10_boat_100 : decode cX10_boat 100 = .ok (.ireturn, 1) := by decide +kernel
theorem dX10_byCustom_0 : decode cX10_byCustom 0 = .ok (.aload_n 0, 1) := by decide +kernel
theorem dX10_byCustom_1 : decode cX10_byCustom 1 = .ok (.getfield 28, 3) := by decide +kernel
theorem dX10_byCustom_4 : decode cX10_byCustom 4 = .ok (.iload_n 1, 1) := by decide +kernel
theorem dX10_byCustom_5 : decode cX10_byCustom 5 = .ok (.iaload, 1) := by decide +kernel
theorem dX10_byCustom_6 : decode cX10_byCustom 6 = .ok (.iconst 1, 1) := by decide +kernel
theorem dX10_byCustom_7 : decode cX10_byCustom 7 = .ok (.if_icmp .ne 7, 3) := by decide +kernel
theorem dX10_byCustom_10 : decode cX10_byCustom 10 = .ok (.iconst 1, 1) := by decide +kernel
theorem dX10_byCustom_11 : decode cX10_byCustom 11 = .ok (.goto 4, 3) := by decide +kernel
theorem dX10_byCustom_14 : decode cX10_byCustom 14 = .ok (.iconst 0, 1) := by decide +kernel
theorem dX10_byCustom_15 : decode cX10_byCustom 15 = .ok (.aload_n 0, 1) := by decide +kernel
theorem dX10_byCustom_16 : decode cX10_byCustom 16 = .ok (.getfield 28, 3) := by decide +kernel
theorem dX10_byCustom_19 : decode cX10_byCustom 19 = .ok (.iload_n 2, 1) := by decide +kernel
theorem dX10_byCustom_20 : decode cX10_byCustom 20 = .ok (.iaload, 1) := by decide +kernel
theorem dX10_byCustom_21 : decode cX10_byCustom 21 = .ok (.iconst 1, 1) := by decide +kernel
theorem dX10_byCustom_22 : decode cX10_byCustom 22 = .ok (.if_icmp .ne 7, 3) := by decide +kernel
theorem dX10_byCustom_25 : decode cX10_byCustom 25 = .ok (.iconst 1, 1) := by decide +kernel
theorem dX10_byCustom_26 : decode cX10_byCustom 26 = .ok (.goto 4, 3) := by decide +kernel
theorem dX10_byCustom_29 : decode cX10_byCustom 29 = .ok (.iconst 0, 1) := by decide +kernel
theorem dX10_byCustom_30 : decode cX10_byCustom 30 = .ok (.if_icmp .eq 19, 3) := by decide +kernel
theorem dX10_byCustom_33 : decode cX10_byCustom 33 = .ok (.aload_n 0, 1) := by decide +kernel
theorem dX10_byCustom_34 : decode cX10_byCustom 34 = .ok (.getfield 28, 3) := by decide +kernel
theorem dX10_byCustom_37 : decode cX10_byCustom 37 = .ok (.iload_n 1, 1) := by decide +kernel
theorem dX10_byCustom_38 : decode cX10_byCustom 38 = .ok (.iaload, 1) := by decide +kernel
theorem dX10_byCustom_39 : decode cX10_byCustom 39 = .ok (.iconst 1, 1) := by decide +kernel
theorem dX10_byCustom_40 : decode cX10_byCustom 40 = .ok (.if_icmp .ne 7, 3) := by decide +kernel
theorem dX10_byCustom_43 : decode cX10_byCustom 43 = .ok (.iload_n 2, 1) := by decide +kernel
theorem dX10_byCustom_44 : decode cX10_byCustom 44 = .ok (.goto 4, 3) := by decide +kernel
theorem dX10_byCustom_47 : decode cX10_byCustom 47 = .ok (.iload_n 1, 1) := by decide +kernel
theorem dX10_byCustom_48 : decode cX10_byCustom 48 = .ok (.ireturn, 1) := by decide +kernel
theorem dX10_byCustom_49 : decode cX10_byCustom 49 = .ok (.aload_n 0, 1) := by decide +kernel
theorem dX10_byCustom_50 : decode cX10_byCustom 50 = .ok (.getfield 43, 3) := by decide +kernel
theorem dX10_byCustom_53 : decode cX10_byCustom 53 = .ok (.iload_n 1, 1) := by decide +kernel
theorem dX10_byCustom_54 : decode cX10_byCustom 54 = .ok (.iaload, 1) := by decide +kernel
theorem dX10_byCustom_55 : decode cX10_byCustom 55 = .ok (.ifCond .ne 7, 3) := by decide +kernel
theorem dX10_byCustom_58 : decode cX10_byCustom 58 = .ok (.iconst 1, 1) := by decide +kernel
theorem dX10_byCustom_59 : decode cX10_byCustom 59 = .ok (.goto 4, 3) := by decide +kernel
theorem dX10_byCustom_62 : decode cX10_byCustom 62 = .ok (.iconst 0, 1) := by decide +kernel
theorem dX10_byCustom_63 : decode cX10_byCustom 63 = .ok (.aload_n 0, 1) := by decide +kernel
theorem dX10_byCustom_64 : decode cX10_byCustom 64 = .ok (.getfield 43, 3) := by decide +kernel
theorem dX10_byCustom_67 : decode cX10_byCustom 67 = .ok (.iload_n 2, 1) := by decide +kernel
theorem dX10_byCustom_68 : decode cX10_byCustom 68 = .ok (.iaload, 1) := by decide +kernel
theorem dX10_byCustom_69 : decode cX10_byCustom 69 = .ok (.ifCond .ne 7, 3) := by decide +kernel
theorem dX10_byCustom_72 : decode cX10_byCustom 72 = .ok (.iconst 1, 1) := by decide +kernel
theorem dX10_byCustom_73 : decode cX10_byCustom 73 = .ok (.goto 4, 3) := by decide +kernel
theorem dX10_byCustom_76 : decode cX10_byCustom 76 = .ok (.iconst 0, 1) := by decide +kernel
theorem dX10_byCustom_77 : decode cX10_byCustom 77 = .ok (.if_icmp .eq 18, 3) := by decide +kernel
theorem dX10_byCustom_80 : decode cX10_byCustom 80 = .ok (.aload_n 0, 1) := by decide +kernel
theorem dX10_byCustom_81 : decode cX10_byCustom 81 = .ok (.getfield 43, 3) := by decide +kernel
theorem dX10_byCustom_84 : decode cX10_byCustom 84 = .ok (.iload_n 1, 1) := by decide +kernel
theorem dX10_byCustom_85 : decode cX10_byCustom 85 = .ok (.iaload, 1) := by decide +kernel
theorem dX10_byCustom_86 : decode cX10_byCustom 86 = .ok (.ifCond .ne 7, 3) := by decide +kernel
theorem dX10_byCustom_89 : decode cX10_byCustom 89 = .ok (.iload_n 1, 1) := by decide +kernel
theorem dX10_byCustom_90 : decode cX10_byCustom 90 = .ok (.goto 4, 3) := by decide +kernel
theorem dX10_byCustom_93 : decode cX10_byCustom 93 = .ok (.iload_n 2, 1) := by decide +kernel
theorem dX10_byCustom_94 : decode cX10_byCustom 94 = .ok (.ireturn, 1) := by decide +kernel
theorem dX10_byCustom_95 : decode cX10_byCustom 95 = .ok (.aload_n 0, 1) := by decide +kernel
theorem dX10_byCustom_96 : decode cX10_byCustom 96 = .ok (.getfield 19, 3) := by decide +kernel
theorem dX10_byCustom_99 : decode cX10_byCustom 99 = .ok (.iload_n 1, 1) := by decide +kernel
theorem dX10_byCustom_100 : decode cX10_byCustom 100 = .ok (.iaload, 1) := by decide +kernel
theorem dX10_byCustom_101 : decode cX10_byCustom 101 = .ok (.iconst 1, 1) := by decide +kernel
theorem dX10_byCustom_102 : decode cX10_byCustom 102 = .ok (.if_icmp .ne 7, 3) := by decide +kernel
theorem dX10_byCustom_105 : decode cX10_byCustom 105 = .ok (.iload_n 1, 1) := by decide +kernel
theorem dX10_byCustom_106 : decode cX10_byCustom 106 = .ok (.goto 4, 3) := by decide +kernel
theorem dX10_byCustom_109 : decode cX10_byCustom 109 = .ok (.iload_n 2, 1) := by decide +kernel
theorem dX10_byCustom_110 : decode cX10_byCustom 110 = .ok (.ireturn, 1) := by decide +kernel
theorem dX10_byLoad_0 : decode cX10_byLoad 0 = .ok (.aload_n 0, 1) := by decide +kernel
theorem dX10_byLoad_1 : decode cX10_byLoad 1 = .ok (.getfield 43, 3) := by decide +kernel
theorem dX10_byLoad_4 : decode cX10_byLoad 4 = .ok (.iload_n 1, 1) := by decide +kernel
theorem dX10_byLoad_5 : decode cX10_byLoad 5 = .ok (.iaload, 1) := by decide +kernel
theorem dX10_byLoad_6 : decode cX10_byLoad 6 = .ok (.aload_n 0, 1) := by decide +kernel
theorem dX10_byLoad_7 : decode cX10_byLoad 7 = .ok (.getfield 43, 3) := by decide +kernel
theorem dX10_byLoad_10 : decode cX10_byLoad 10 = .ok (.iload_n 2, 1) := by decide +kernel
theorem dX10_byLoad_11 : decode cX10_byLoad 11 = .ok (.iaload, 1) := by decide +kernel
theorem dX10_byLoad_12 : decode cX10_byLoad 12 = .ok (.if_icmp .ne 12, 3) := by decide +kernel
theorem dX10_byLoad_15 : decode cX10_byLoad 15 = .ok (.aload_n 0, 1) := by decide +kernel
theorem dX10_byLoad_16 : decode cX10_byLoad 16 = .ok (.iload_n 1, 1) := by decide +kernel
theorem dX10_byLoad_17 : decode cX10_byLoad 17 = .ok (.iload_n 2, 1) := by decide +kernel
theorem dX10_byLoad_18 : decode cX10_byLoad 18 = .ok (.invokevirtual 168, 3) := by decide +kernel
theorem dX10_byLoad_21 : decode cX10_byLoad 21 = .ok (.goto 23, 3) := by decide +kernel
theorem dX10_byLoad_24 : decode cX10_byLoad 24 = .ok (.aload_n 0, 1) := by decide +kernel
theorem dX10_byLoad_25 : decode cX10_byLoad 25 = .ok (.getfield 43, 3) := by decide +kernel
theorem dX10_byLoad_28 : decode cX10_byLoad 28 = .ok (.iload_n 1, 1) := by decide +kernel
theorem dX10_byLoad_29 : decode cX10_byLoad 29 = .ok (.iaload, 1) := by decide +kernel
theorem dX10_byLoad_30 : decode cX10_byLoad 30 = .ok (.aload_n 0, 1) := by decide +kernel
theorem dX10_byLoad_31 : decode cX10_byLoad 31 = .ok (.getfield 43, 3) := by decide +kernel
theorem dX10_byLoad_34 : decode cX10_byLoad 34 = .ok (.iload_n 2, 1) := by decide +kernel
theorem dX10_byLoad_35 : decode cX10_byLoad 35 = .ok (.iaload, 1) := by decide +kernel
theorem dX10_byLoad_36 : decode cX10_byLoad 36 = .ok (.if_icmp .ge 7, 3) := by decide +kernel
theorem dX10_byLoad_39 : decode cX10_byLoad 39 = .ok (.iload_n 1, 1) := by decide +kernel
theorem dX10_byLoad_40 : decode cX10_byLoad 40 = .ok (.goto 4, 3) := by decide +kernel
theorem dX10_byLoad_43 : decode cX10_byLoad 43 = .ok (.iload_n 2, 1) := by decide +kernel
theorem dX10_byLoad_44 : decode cX10_byLoad 44 = .ok (.ireturn, 1) := by decide +kernel
theorem dX10_loss_0 : decode cX10_loss 0 = .ok (.aload_n 0, 1) := by decide +kernel
theorem dX10_loss_1 : decode cX10_loss 1 = .ok (.getfield 40, 3) := by decide +kernel
theorem dX10_loss_4 : decode cX10_loss 4 = .ok (.iconst 0, 1) := by decide +kernel
theorem dX10_loss_5 : decode cX10_loss 5 = .ok (.iaload, 1) := by decide +kernel
theorem dX10_loss_6 : decode cX10_loss 6 = .ok (.aload_n 0, 1) := by decide +kernel
theorem dX10_loss_7 : decode cX10_loss 7 = .ok (.getfield 43, 3) := by decide +kernel
theorem dX10_loss_10 : decode cX10_loss 10 = .ok (.iload_n 1, 1) := by decide +kernel
theorem dX10_loss_11 : decode cX10_loss 11 = .ok (.iaload, 1) := by decide +kernel
theorem dX10_loss_12 : decode cX10_loss 12 = .ok (.iadd, 1) := by decide +kernel
theorem dX10_loss_13 : decode cX10_loss 13 = .ok (.aload_n 0, 1) := by decide +kernel
theorem dX10_loss_14 : decode cX10_loss 14 = .ok (.getfield 43, 3) := by decide +kernel
theorem dX10_loss_17 : decode cX10_loss 17 = .ok (.iload_n 1, 1) := by decide +kernel
theorem dX10_loss_18 : decode cX10_loss 18 = .ok (.iaload, 1) := by decide +kernel
theorem dX10_loss_19 : decode cX10_loss 19 = .ok (.iconst 1, 1) := by decide +kernel
theorem dX10_loss_20 : decode cX10_loss 20 = .ok (.iadd, 1) := by decide +kernel
theorem dX10_loss_21 : decode cX10_loss 21 = .ok (.imul, 1) := by decide +kernel
theorem dX10_loss_22 : decode cX10_loss 22 = .ok (.ireturn, 1) := by decide +kernel
theorem dX10_byRule_0 : decode cX10_byRule 0 = .ok (.iload_n 1, 1) := by decide +kernel
theorem dX10_byRule_1 : decode cX10_byRule 1 = .ok (.tableswitch 86 0 2 #[27, 34, 41], 27) := by decide +kernel
theorem dX10_byRule_28 : decode cX10_byRule 28 = .ok (.aload_n 0, 1) := by decide +kernel
theorem dX10_byRule_29 : decode cX10_byRule 29 = .ok (.iload_n 2, 1) := by decide +kernel
theorem dX10_byRule_30 : decode cX10_byRule 30 = .ok (.iload_n 3, 1) := by decide +kernel
theorem dX10_byRule_31 : decode cX10_byRule 31 = .ok (.invokevirtual 168, 3) := by decide +kernel
theorem dX10_byRule_34 : decode cX10_byRule 34 = .ok (.ireturn, 1) := by decide +kernel
theorem dX10_byRule_35 : decode cX10_byRule 35 = .ok (.aload_n 0, 1) := by decide +kernel
theorem dX10_byRule_36 : decode cX10_byRule 36 = .ok (.iload_n 2, 1) := by decide +kernel
theorem dX10_byRule_37 : decode cX10_byRule 37 = .ok (.iload_n 3, 1) := by decide +kernel
theorem dX10_byRule_38 : decode cX10_byRule 38 = .ok (.invokevirtual 172, 3) := by decide +kernel
theorem dX10_byRule_41 : decode cX10_byRule 41 = .ok (.ireturn, 1) := by decide +kernel
theorem dX10_byRule_42 : decode cX10_byRule 42 = .ok (.aload_n 0, 1) := by decide +kernel
theorem dX10_byRule_43 : decode cX10_byRule 43 = .ok (.getfield 22, 3) := by decide +kernel
theorem dX10_byRule_46 : decode cX10_byRule 46 = .ok (.iload_n 2, 1) := by decide +kernel
theorem dX10_byRule_47 : decode cX10_byRule 47 = .ok (.iaload, 1) := by decide +kernel
theorem dX10_byRule_48 : decode cX10_byRule 48 = .ok (.aload_n 0, 1) := by decide +kernel
theorem dX10_byRule_49 : decode cX10_byRule 49 = .ok (.getfield 22, 3) := by decide +kernel
theorem dX10_byRule_52 : decode cX10_byRule 52 = .ok (.iload_n 3, 1) := by decide +kernel
theorem dX10_byRule_53 : decode cX10_byRule 53 = .ok (.iaload, 1) := by decide +kernel
theorem dX10_byRule_54 : decode cX10_byRule 54 = .ok (.if_icmp .ne 12, 3) := by decide +kernel
theorem dX10_byRule_57 : decode cX10_byRule 57 = .ok (.aload_n 0, 1) := by decide +kernel
theorem dX10_byRule_58 : decode cX10_byRule 58 = .ok (.iload_n 2, 1) := by decide +kernel
theorem dX10_byRule_59 : decode cX10_byRule 59 = .ok (.iload_n 3, 1) := by decide +kernel
theorem dX10_byRule_60 : decode cX10_byRule 60 = .ok (.invokevirtual 168, 3) := by decide +kernel
theorem dX10_byRule_63 : decode cX10_byRule 63 = .ok (.goto 23, 3) := by decide +kernel
theorem dX10_byRule_66 : decode cX10_byRule 66 = .ok (.aload_n 0, 1) := by decide +kernel
theorem dX10_byRule_67 : decode cX10_byRule 67 = .ok (.getfield 22, 3) := by decide +kernel
theorem dX10_byRule_70 : decode cX10_byRule 70 = .ok (.iload_n 2, 1) := by decide +kernel
theorem dX10_byRule_71 : decode cX10_byRule 71 = .ok (.iaload, 1) := by decide +kernel
theorem dX10_byRule_72 : decode cX10_byRule 72 = .ok (.aload_n 0, 1) := by decide +kernel
theorem dX10_byRule_73 : decode cX10_byRule 73 = .ok (.getfield 22, 3) := by decide +kernel
theorem dX10_byRule_76 : decode cX10_byRule 76 = .ok (.iload_n 3, 1) := by decide +kernel
theorem dX10_byRule_77 : decode cX10_byRule 77 = .ok (.iaload, 1) := by decide +kernel
theorem dX10_byRule_78 : decode cX10_byRule 78 = .ok (.if_icmp .ge 7, 3) := by decide +kernel
theorem dX10_byRule_81 : decode cX10_byRule 81 = .ok (.iload_n 2, 1) := by decide +kernel
theorem dX10_byRule_82 : decode cX10_byRule 82 = .ok (.goto 4, 3) := by decide +kernel
theorem dX10_byRule_85 : decode cX10_byRule 85 = .ok (.iload_n 3, 1) := by decide +kernel
theorem dX10_byRule_86 : decode cX10_byRule 86 = .ok (.ireturn, 1) := by decide +kernel
theorem dX10_byRule_87 : decode cX10_byRule 87 = .ok (.aload_n 0, 1) := by decide +kernel
theorem dX10_byRule_88 : decode cX10_byRule 88 = .ok (.iload_n 2, 1) := by decide +kernel
theorem dX10_byRule_89 : decode cX10_byRule 89 = .ok (.invokevirtual 175, 3) := by decide +kernel
theorem dX10_byRule_92 : decode cX10_byRule 92 = .ok (.aload_n 0, 1) := by decide +kernel
theorem dX10_byRule_93 : decode cX10_byRule 93 = .ok (.iload_n 3, 1) := by decide +kernel
theorem dX10_byRule_94 : decode cX10_byRule 94 = .ok (.invokevirtual 175, 3) := by decide +kernel
theorem dX10_byRule_97 : decode cX10_byRule 97 = .ok (.if_icmp .ne 12, 3) := by decide +kernel
theorem dX10_byRule_100 : decode cX10_byRule 100 = .ok (.aload_n 0, 1) := by decide +kernel
theorem dX10_byRule_101 : decode cX10_byRule 101 = .ok (.iload_n 2, 1) := by decide +kernel
theorem dX10_byRule_102 : decode cX10_byRule 102 = .ok (.iload_n 3, 1) := by decide +kernel
theorem dX10_byRule_103 : decode cX10_byRule 103 = .ok (.invokevirtual 172, 3) := by decide +kernel
theorem dX10_byRule_106 : decode cX10_byRule 106 = .ok (.goto 21, 3) := by decide +kernel
theorem dX10_byRule_109 : decode cX10_byRule 109 = .ok (.aload_n 0, 1) := by decide +kernel
theorem dX10_byRule_110 : decode cX10_byRule 110 = .ok (.iload_n 2, 1) := by decide +kernel
theorem dX10_byRule_111 : decode cX10_byRule 111 = .ok (.invokevirtual 175, 3) := by decide +kernel
theorem dX10_byRule_114 : decode cX10_byRule 114 = .ok (.aload_n 0, 1) := by decide +kernel
theorem dX10_byRule_115 : decode cX10_byRule 115 = .ok (.iload_n 3, 1) := by decide +kernel
theorem dX10_byRule_116 : decode cX10_byRule 116 = .ok (.invokevirtual 175, 3) := by decide +kernel
theorem dX10_byRule_119 : decode cX10_byRule 119 = .ok (.if_icmp .ge 7, 3) := by decide +kernel
theorem dX10_byRule_122 : decode cX10_byRule 122 = .ok (.iload_n 2, 1) := by decide +kernel
theorem dX10_byRule_123 : decode cX10_byRule 123 = .ok (.goto 4, 3) := by decide +kernel
theorem dX10_byRule_126 : decode cX10_byRule 126 = .ok (.iload_n 3, 1) := by decide +kernel
theorem dX10_byRule_127 : decode cX10_byRule 127 = .ok (.ireturn, 1) := by decide +kernel
theorem dX10_yielder_0 : decode cX10_yielder 0 = .ok (.aload_n 0, 1) := by decide +kernel
theorem dX10_yielder_1 : decode cX10_yielder 1 = .ok (.getfield 28, 3) := by decide +kernel
theorem dX10_yielder_4 : decode cX10_yielder 4 = .ok (.iload_n 2, 1) := by decide +kernel
theorem dX10_yielder_5 : decode cX10_yielder 5 = .ok (.iaload, 1) := by decide +kernel
theorem dX10_yielder_6 : decode cX10_yielder 6 = .ok (.iconst 2, 1) := by decide +kernel
theorem dX10_yielder_7 : decode cX10_yielder 7 = .ok (.if_icmp .eq 13, 3) := by decide +kernel
theorem dX10_yielder_10 : decode cX10_yielder 10 = .ok (.aload_n 0, 1) := by decide +kernel
theorem dX10_yielder_11 : decode cX10_yielder 11 = .ok (.getfield 28, 3) := by decide +kernel
theorem dX10_yielder_14 : decode cX10_yielder 14 = .ok (.iload_n 3, 1) := by decide +kernel
theorem dX10_yielder_15 : decode cX10_yielder 15 = .ok (.iaload, 1) := by decide +kernel
theorem dX10_yielder_16 : decode cX10_yielder 16 = .ok (.iconst 2, 1) := by decide +kernel
theorem dX10_yielder_17 : decode cX10_yielder 17 = .ok (.if_icmp .ne 39, 3) := by decide +kernel
theorem dX10_yielder_20 : decode cX10_yielder 20 = .ok (.aload_n 0, 1) := by decide +kernel
theorem dX10_yielder_21 : decode cX10_yielder 21 = .ok (.getfield 28, 3) := by decide +kernel
theorem dX10_yielder_24 : decode cX10_yielder 24 = .ok (.iload_n 2, 1) := by decide +kernel
theorem dX10_yielder_25 : decode cX10_yielder 25 = .ok (.iaload, 1) := by decide +kernel
theorem dX10_yielder_26 : decode cX10_yielder 26 = .ok (.aload_n 0, 1) := by decide +kernel
theorem dX10_yielder_27 : decode cX10_yielder 27 = .ok (.getfield 28, 3) := by decide +kernel
theorem dX10_yielder_30 : decode cX10_yielder 30 = .ok (.iload_n 3, 1) := by decide +kernel
theorem dX10_yielder_31 : decode cX10_yielder 31 = .ok (.iaload, 1) := by decide +kernel
theorem dX10_yielder_32 : decode cX10_yielder 32 = .ok (.if_icmp .ne 8, 3) := by decide +kernel
theorem dX10_yielder_35 : decode cX10_yielder 35 = .ok (.bipush (-4), 2) := by decide +kernel
theorem dX10_yielder_37 : decode cX10_yielder 37 = .ok (.goto 18, 3) := by decide +kernel
theorem dX10_yielder_40 : decode cX10_yielder 40 = .ok (.aload_n 0, 1) := by decide +kernel
theorem dX10_yielder_41 : decode cX10_yielder 41 = .ok (.getfield 28, 3) := by decide +kernel
theorem dX10_yielder_44 : decode cX10_yielder 44 = .ok (.iload_n 2, 1) := by decide +kernel
theorem dX10_yielder_45 : decode cX10_yielder 45 = .ok (.iaload, 1) := by decide +kernel
theorem dX10_yielder_46 : decode cX10_yielder 46 = .ok (.iconst 2, 1) := by decide +kernel
theorem dX10_yielder_47 : decode cX10_yielder 47 = .ok (.if_icmp .ne 7, 3) := by decide +kernel
theorem dX10_yielder_50 : decode cX10_yielder 50 = .ok (.iload_n 3, 1) := by decide +kernel
theorem dX10_yielder_51 : decode cX10_yielder 51 = .ok (.goto 4, 3) := by decide +kernel
theorem dX10_yielder_54 : decode cX10_yielder 54 = .ok (.iload_n 2, 1) := by decide +kernel
theorem dX10_yielder_55 : decode cX10_yielder 55 = .ok (.ireturn, 1) := by decide +kernel
theorem dX10_yielder_56 : decode cX10_yielder 56 = .ok (.aload_n 0, 1) := by decide +kernel
theorem dX10_yielder_57 : decode cX10_yielder 57 = .ok (.getfield 28, 3) := by decide +kernel
theorem dX10_yielder_60 : decode cX10_yielder 60 = .ok (.iload_n 2, 1) := by decide +kernel
theorem dX10_yielder_61 : decode cX10_yielder 61 = .ok (.iaload, 1) := by decide +kernel
theorem dX10_yielder_62 : decode cX10_yielder 62 = .ok (.iconst 3, 1) := by decide +kernel
theorem dX10_yielder_63 : decode cX10_yielder 63 = .ok (.if_icmp .ne 7, 3) := by decide +kernel
theorem dX10_yielder_66 : decode cX10_yielder 66 = .ok (.iconst 1, 1) := by decide +kernel
theorem dX10_yielder_67 : decode cX10_yielder 67 = .ok (.goto 4, 3) := by decide +kernel
theorem dX10_yielder_70 : decode cX10_yielder 70 = .ok (.iconst 0, 1) := by decide +kernel
theorem dX10_yielder_71 : decode cX10_yielder 71 = .ok (.aload_n 0, 1) := by decide +kernel
theorem dX10_yielder_72 : decode cX10_yielder 72 = .ok (.getfield 28, 3) := by decide +kernel
theorem dX10_yielder_75 : decode cX10_yielder 75 = .ok (.iload_n 3, 1) := by decide +kernel
theorem dX10_yielder_76 : decode cX10_yielder 76 = .ok (.iaload, 1) := by decide +kernel
theorem dX10_yielder_77 : decode cX10_yielder 77 = .ok (.iconst 3, 1) := by decide +kernel
theorem dX10_yielder_78 : decode cX10_yielder 78 = .ok (.if_icmp .ne 7, 3) := by decide +kernel
theorem dX10_yielder_81 : decode cX10_yielder 81 = .ok (.iconst 1, 1) := by decide +kernel
theorem dX10_yielder_82 : decode cX10_yielder 82 = .ok (.goto 4, 3) := by decide +kernel
theorem dX10_yielder_85 : decode cX10_yielder 85 = .ok (.iconst 0, 1) := by decide +kernel
theorem dX10_yielder_86 : decode cX10_yielder 86 = .ok (.if_icmp .eq 19, 3) := by decide +kernel
theorem dX10_yielder_89 : decode cX10_yielder 89 = .ok (.aload_n 0, 1) := by decide +kernel
theorem dX10_yielder_90 : decode cX10_yielder 90 = .ok (.getfield 28, 3) := by decide +kernel
theorem dX10_yielder_93 : decode cX10_yielder 93 = .ok (.iload_n 2, 1) := by decide +kernel
theorem dX10_yielder_94 : decode cX10_yielder 94 = .ok (.iaload, 1) := by decide +kernel
theorem dX10_yielder_95 : decode cX10_yielder 95 = .ok (.iconst 3, 1) := by decide +kernel
theorem dX10_yielder_96 : decode cX10_yielder 96 = .ok (.if_icmp .ne 7, 3) := by decide +kernel
theorem dX10_yielder_99 : decode cX10_yielder 99 = .ok (.iload_n 2, 1) := by decide +kernel
theorem dX10_yielder_100 : decode cX10_yielder 100 = .ok (.goto 4, 3) := by decide +kernel
theorem dX10_yielder_103 : decode cX10_yielder 103 = .ok (.iload_n 3, 1) := by decide +kernel
theorem dX10_yielder_104 : decode cX10_yielder 104 = .ok (.ireturn, 1) := by decide +kernel
theorem dX10_yielder_105 : decode cX10_yielder 105 = .ok (.aload_n 0, 1) := by decide +kernel
theorem dX10_yielder_106 : decode cX10_yielder 106 = .ok (.iload_n 1, 1) := by decide +kernel
theorem dX10_yielder_107 : decode cX10_yielder 107 = .ok (.iload_n 2, 1) := by decide +kernel
theorem dX10_yielder_108 : decode cX10_yielder 108 = .ok (.iload_n 3, 1) := by decide +kernel
theorem dX10_yielder_109 : decode cX10_yielder 109 = .ok (.invokevirtual 178, 3) := by decide +kernel
theorem dX10_yielder_112 : decode cX10_yielder 112 = .ok (.ireturn, 1) := by decide +kernel
theorem dX10_endOf_0 : decode cX10_endOf 0 = .ok (.aload_n 0, 1) := by decide +kernel
theorem dX10_endOf_1 : decode cX10_endOf 1 = .ok (.getfield 19, 3) := by decide +kernel
theorem dX10_endOf_4 : decode cX10_endOf 4 = .ok (.iload_n 1, 1) := by decide +kernel
theorem dX10_endOf_5 : decode cX10_endOf 5 = .ok (.iaload, 1) := by decide +kernel
theorem dX10_endOf_6 : decode cX10_endOf 6 = .ok (.ifCond .ne 8, 3) := by decide +kernel
theorem dX10_endOf_9 : decode cX10_endOf 9 = .ok (.bipush 60, 2) := by decide +kernel
theorem dX10_endOf_11 : decode cX10_endOf 11 = .ok (.goto 4, 3) := by decide +kernel
theorem dX10_endOf_14 : decode cX10_endOf 14 = .ok (.iconst 0, 1) := by decide +kernel
theorem dX10_endOf_15 : decode cX10_endOf 15 = .ok (.ireturn, 1) := by decide +kernel
theorem dX10_isNarrow_0 : decode cX10_isNarrow 0 = .ok (.iconst 0, 1) := by decide +kernel
theorem dX10_isNarrow_1 : decode cX10_isNarrow 1 = .ok (.istore_n 2, 1) := by decide +kernel
theorem dX10_isNarrow_2 : decode cX10_isNarrow 2 = .ok (.iconst 0, 1) := by decide +kernel
theorem dX10_isNarrow_3 : decode cX10_isNarrow 3 = .ok (.istore_n 3, 1) := by decide +kernel
theorem dX10_isNarrow_4 : decode cX10_isNarrow 4 = .ok (.iload_n 3, 1) := by decide +kernel
theorem dX10_isNarrow_5 : decode cX10_isNarrow 5 = .ok (.aload_n 0, 1) := by decide +kernel
theorem dX10_isNarrow_6 : decode cX10_isNarrow 6 = .ok (.getfield 31, 3) := by decide +kernel
theorem dX10_isNarrow_9 : decode cX10_isNarrow 9 = .ok (.iconst 0, 1) := by decide +kernel
theorem dX10_isNarrow_10 : decode cX10_isNarrow 10 = .ok (.iaload, 1) := by decide +kernel
theorem dX10_isNarrow_11 : decode cX10_isNarrow 11 = .ok (.if_icmp .ge 41, 3) := by decide +kernel
theorem dX10_isNarrow_14 : decode cX10_isNarrow 14 = .ok (.iload_n 2, 1) := by decide +kernel
theorem dX10_isNarrow_15 : decode cX10_isNarrow 15 = .ok (.ifCond .ne 25, 3) := by decide +kernel
theorem dX10_isNarrow_18 : decode cX10_isNarrow 18 = .ok (.iload_n 1, 1) := by decide +kernel
theorem dX10_isNarrow_19 : decode cX10_isNarrow 19 = .ok (.i2l, 1) := by decide +kernel
theorem dX10_isNarrow_20 : decode cX10_isNarrow 20 = .ok (.aload_n 0, 1) := by decide +kernel
theorem dX10_isNarrow_21 : decode cX10_isNarrow 21 = .ok (.getfield 34, 3) := by decide +kernel
theorem dX10_isNarrow_24 : decode cX10_isNarrow 24 = .ok (.iload_n 3, 1) := by decide +kernel
theorem dX10_isNarrow_25 : decode cX10_isNarrow 25 = .ok (.iaload, 1) := by decide +kernel
theorem dX10_isNarrow_26 : decode cX10_isNarrow 26 = .ok (.i2l, 1) := by decide +kernel
theorem dX10_isNarrow_27 : decode cX10_isNarrow 27 = .ok (.aload_n 0, 1) := by decide +kernel
theorem dX10_isNarrow_28 : decode cX10_isNarrow 28 = .ok (.getfield 37, 3) := by decide +kernel
theorem dX10_isNarrow_31 : decode cX10_isNarrow 31 = .ok (.iload_n 3, 1) := by decide +kernel
theorem dX10_isNarrow_32 : decode cX10_isNarrow 32 = .ok (.iaload, 1) := by decide +kernel
theorem dX10_isNarrow_33 : decode cX10_isNarrow 33 = .ok (.i2l, 1) := by decide +kernel
theorem dX10_isNarrow_34 : decode cX10_isNarrow 34 = .ok (.invokestatic 109, 3) := by decide +kernel
theorem dX10_isNarrow_37 : decode cX10_isNarrow 37 = .ok (.ifCond .eq 7, 3) := by decide +kernel
theorem dX10_isNarrow_40 : decode cX10_isNarrow 40 = .ok (.iconst 1, 1) := by decide +kernel
theorem dX10_isNarrow_41 : decode cX10_isNarrow 41 = .ok (.goto 4, 3) := by decide +kernel
theorem dX10_isNarrow_44 : decode cX10_isNarrow 44 = .ok (.iconst 0, 1) := by decide +kernel
theorem dX10_isNarrow_45 : decode cX10_isNarrow 45 = .ok (.istore_n 2, 1) := by decide +kernel
theorem dX10_isNarrow_46 : decode cX10_isNarrow 46 = .ok (.iinc 3 1, 3) := by decide +kernel
theorem dX10_isNarrow_49 : decode cX10_isNarrow 49 = .ok (.goto (-45), 3) := by decide +kernel
theorem dX10_isNarrow_52 : decode cX10_isNarrow 52 = .ok (.iload_n 2, 1) := by decide +kernel
theorem dX10_isNarrow_53 : decode cX10_isNarrow 53 = .ok (.ireturn, 1) := by decide +kernel
theorem dX10_standMore_0 : decode cX10_standMore 0 = .ok (.aload_n 0, 1) := by decide +kernel
theorem dX10_standMore_1 : decode cX10_standMore 1 = .ok (.getfield 76, 3) := by decide +kernel
theorem dX10_standMore_4 : decode cX10_standMore 4 = .ok (.iload_n 1, 1) := by decide +kernel
theorem dX10_standMore_5 : decode cX10_standMore 5 = .ok (.dup2, 1) := by decide +kernel
theorem dX10_standMore_6 : decode cX10_standMore 6 = .ok (.iaload, 1) := by decide +kernel
theorem dX10_standMore_7 : decode cX10_standMore 7 = .ok (.iload_n 2, 1) := by decide +kernel
theorem dX10_standMore_8 : decode cX10_standMore 8 = .ok (.ifCond .le 35, 3) := by decide +kernel
theorem dX10_standMore_11 : decode cX10_standMore 11 = .ok (.aload_n 0, 1) := by decide +kernel
theorem dX10_standMore_12 : decode cX10_standMore 12 = .ok (.getfield 64, 3) := by decide +kernel
theorem dX10_standMore_15 : decode cX10_standMore 15 = .ok (.iload_n 1, 1) := by decide +kernel
theorem dX10_standMore_16 : decode cX10_standMore 16 = .ok (.iaload, 1) := by decide +kernel
theorem dX10_standMore_17 : decode cX10_standMore 17 = .ok (.ifCond .ne 26, 3) := by decide +kernel
theorem dX10_standMore_20 : decode cX10_standMore 20 = .ok (.aload_n 0, 1) := by decide +kernel
theorem dX10_standMore_21 : decode cX10_standMore 21 = .ok (.getfield 61, 3) := by decide +kernel
theorem dX10_standMore_24 : decode cX10_standMore 24 = .ok (.bipush 6, 2) := by decide +kernel
theorem dX10_standMore_26 : decode cX10_standMore 26 = .ok (.iload_n 3, 1) := by decide +kernel
theorem dX10_standMore_27 : decode cX10_standMore 27 = .ok (.imul, 1) := by decide +kernel
theorem dX10_standMore_28 : decode cX10_standMore 28 = .ok (.iload_n 1, 1) := by decide +kernel
theorem dX10_standMore_29 : decode cX10_standMore 29 = .ok (.iadd, 1) := by decide +kernel
theorem dX10_standMore_30 : decode cX10_standMore 30 = .ok (.iaload, 1) := by decide +kernel
theorem dX10_standMore_31 : decode cX10_standMore 31 = .ok (.aload_n 0, 1) := by decide +kernel
theorem dX10_standMore_32 : decode cX10_standMore 32 = .ok (.iload_n 1, 1) := by decide +kernel
theorem dX10_standMore_33 : decode cX10_standMore 33 = .ok (.invokevirtual 182, 3) := by decide +kernel
theorem dX10_standMore_36 : decode cX10_standMore 36 = .ok (.if_icmp .eq 7, 3) := by decide +kernel
theorem dX10_standMore_39 : decode cX10_standMore 39 = .ok (.iconst 1, 1) := by decide +kernel
theorem dX10_standMore_40 : decode cX10_standMore 40 = .ok (.goto 4, 3) := by decide +kernel
theorem dX10_standMore_43 : decode cX10_standMore 43 = .ok (.iconst 0, 1) := by decide +kernel
theorem dX10_standMore_44 : decode cX10_standMore 44 = .ok (.iadd, 1) := by decide +kernel
theorem dX10_standMore_45 : decode cX10_standMore 45 = .ok (.iastore, 1) := by decide +kernel
theorem dX10_standMore_46 : decode cX10_standMore 46 = .ok (.aload_n 0, 1) := by decide +kernel
theorem dX10_standMore_47 : decode cX10_standMore 47 = .ok (.getfield 64, 3) := by decide +kernel
theorem dX10_standMore_50 : decode cX10_standMore 50 = .ok (.iload_n 1, 1) := by decide +kernel
theorem dX10_standMore_51 : decode cX10_standMore 51 = .ok (.dup2, 1) := by decide +kernel
theorem dX10_standMore_52 : decode cX10_standMore 52 = .ok (.iaload, 1) := by decide +kernel
theorem dX10_standMore_53 : decode cX10_standMore 53 = .ok (.iload_n 2, 1) := by decide +kernel
theorem dX10_standMore_54 : decode cX10_standMore 54 = .ok (.iadd, 1) := by decide +kernel
theorem dX10_standMore_55 : decode cX10_standMore 55 = .ok (.iastore, 1) := by decide +kernel
theorem dX10_standMore_56 : decode cX10_standMore 56 = .ok (.aload_n 0, 1) := by decide +kernel
theorem dX10_standMore_57 : decode cX10_standMore 57 = .ok (.getfield 70, 3) := by decide +kernel
theorem dX10_standMore_60 : decode cX10_standMore 60 = .ok (.iload_n 1, 1) := by decide +kernel
theorem dX10_standMore_61 : decode cX10_standMore 61 = .ok (.dup2, 1) := by decide +kernel
theorem dX10_standMore_62 : decode cX10_standMore 62 = .ok (.iaload, 1) := by decide +kernel
theorem dX10_standMore_63 : decode cX10_standMore 63 = .ok (.iload_n 2, 1) := by decide +kernel
theorem dX10_standMore_64 : decode cX10_standMore 64 = .ok (.iadd, 1) := by decide +kernel
theorem dX10_standMore_65 : decode cX10_standMore 65 = .ok (.iastore, 1) := by decide +kernel
theorem dX10_standMore_66 : decode cX10_standMore 66 = .ok (.return_, 1) := by decide +kernel
theorem dX10_meet_0 : decode cX10_meet 0 = .ok (.aload_n 0, 1) := by decide +kernel
theorem dX10_meet_1 : decode cX10_meet 1 = .ok (.iload_n 1, 1) := by decide +kernel
theorem dX10_meet_2 : decode cX10_meet 2 = .ok (.iload_n 2, 1) := by decide +kernel
theorem dX10_meet_3 : decode cX10_meet 3 = .ok (.iload_n 3, 1) := by decide +kernel
theorem dX10_meet_4 : decode cX10_meet 4 = .ok (.invokevirtual 185, 3) := by decide +kernel
theorem dX10_meet_7 : decode cX10_meet 7 = .ok (.istore 5, 2) := by decide +kernel
theorem dX10_meet_9 : decode cX10_meet 9 = .ok (.iload 5, 2) := by decide +kernel
theorem dX10_meet_11 : decode cX10_meet 11 = .ok (.ifCond .ge 49, 3) := by decide +kernel
theorem dX10_meet_14 : decode cX10_meet 14 = .ok (.aload_n 0, 1) := by decide +kernel
theorem dX10_meet_15 : decode cX10_meet 15 = .ok (.aload_n 0, 1) := by decide +kernel
theorem dX10_meet_16 : decode cX10_meet 16 = .ok (.getfield 61, 3) := by decide +kernel
theorem dX10_meet_19 : decode cX10_meet 19 = .ok (.bipush 6, 2) := by decide +kernel
theorem dX10_meet_21 : decode cX10_meet 21 = .ok (.iload 4, 2) := by decide +kernel
theorem dX10_meet_23 : decode cX10_meet 23 = .ok (.imul, 1) := by decide +kernel
theorem dX10_meet_24 : decode cX10_meet 24 = .ok (.iload_n 2, 1) := by decide +kernel
theorem dX10_meet_25 : decode cX10_meet 25 = .ok (.iadd, 1) := by decide +kernel
theorem dX10_meet_26 : decode cX10_meet 26 = .ok (.iaload, 1) := by decide +kernel
theorem dX10_meet_27 : decode cX10_meet 27 = .ok (.invokevirtual 188, 3) := by decide +kernel
theorem dX10_meet_30 : decode cX10_meet 30 = .ok (.ifCond .ne 22, 3) := by decide +kernel
theorem dX10_meet_33 : decode cX10_meet 33 = .ok (.aload_n 0, 1) := by decide +kernel
theorem dX10_meet_34 : decode cX10_meet 34 = .ok (.aload_n 0, 1) := by decide +kernel
theorem dX10_meet_35 : decode cX10_meet 35 = .ok (.getfield 61, 3) := by decide +kernel
theorem dX10_meet_38 : decode cX10_meet 38 = .ok (.bipush 6, 2) := by decide +kernel
theorem dX10_meet_40 : decode cX10_meet 40 = .ok (.iload 4, 2) := by decide +kernel
theorem dX10_meet_42 : decode cX10_meet 42 = .ok (.imul, 1) := by decide +kernel
theorem dX10_meet_43 : decode cX10_meet 43 = .ok (.iload_n 3, 1) := by decide +kernel
theorem dX10_meet_44 : decode cX10_meet 44 = .ok (.iadd, 1) := by decide +kernel
theorem dX10_meet_45 : decode cX10_meet 45 = .ok (.iaload, 1) := by decide +kernel
theorem dX10_meet_46 : decode cX10_meet 46 = .ok (.invokevirtual 188, 3) := by decide +kernel
theorem dX10_meet_49 : decode cX10_meet 49 = .ok (.ifCond .eq 7, 3) := by decide +kernel
theorem dX10_meet_52 : decode cX10_meet 52 = .ok (.iconst 1, 1) := by decide +kernel
theorem dX10_meet_53 : decode cX10_meet 53 = .ok (.goto 24, 3) := by decide +kernel
theorem dX10_meet_56 : decode cX10_meet 56 = .ok (.iconst 0, 1) := by decide +kernel
theorem dX10_meet_57 : decode cX10_meet 57 = .ok (.goto 20, 3) := by decide +kernel
theorem dX10_meet_60 : decode cX10_meet 60 = .ok (.aload_n 0, 1) := by decide +kernel
theorem dX10_meet_61 : decode cX10_meet 61 = .ok (.aload_n 0, 1) := by decide +kernel
theorem dX10_meet_62 : decode cX10_meet 62 = .ok (.getfield 61, 3) := by decide +kernel
theorem dX10_meet_65 : decode cX10_meet 65 = .ok (.bipush 6, 2) := by decide +kernel
theorem dX10_meet_67 : decode cX10_meet 67 = .ok (.iload 4, 2) := by decide +kernel
theorem dX10_meet_69 : decode cX10_meet 69 = .ok (.imul, 1) := by decide +kernel
theorem dX10_meet_70 : decode cX10_meet 70 = .ok (.iload 5, 2) := by decide +kernel
theorem dX10_meet_72 : decode cX10_meet 72 = .ok (.iadd, 1) := by decide +kernel
theorem dX10_meet_73 : decode cX10_meet 73 = .ok (.iaload, 1) := by decide +kernel
theorem dX10_meet_74 : decode cX10_meet 74 = .ok (.invokevirtual 188, 3) := by decide +kernel
theorem dX10_meet_77 : decode cX10_meet 77 = .ok (.istore 6, 2) := by decide +kernel
theorem dX10_meet_79 : decode cX10_meet 79 = .ok (.iload 6, 2) := by decide +kernel
theorem dX10_meet_81 : decode cX10_meet 81 = .ok (.ifCond .eq 7, 3) := by decide +kernel
theorem dX10_meet_84 : decode cX10_meet 84 = .ok (.iconst 3, 1) := by decide +kernel
theorem dX10_meet_85 : decode cX10_meet 85 = .ok (.goto 4, 3) := by decide +kernel
theorem dX10_meet_88 : decode cX10_meet 88 = .ok (.iconst 0, 1) := by decide +kernel
theorem dX10_meet_89 : decode cX10_meet 89 = .ok (.istore 7, 2) := by decide +kernel
theorem dX10_meet_91 : decode cX10_meet 91 = .ok (.iload 5, 2) := by decide +kernel
theorem dX10_meet_93 : decode cX10_meet 93 = .ok (.ifCond .ge 12, 3) := by decide +kernel
theorem dX10_meet_96 : decode cX10_meet 96 = .ok (.aload_n 0, 1) := by decide +kernel
theorem dX10_meet_97 : decode cX10_meet 97 = .ok (.getfield 40, 3) := by decide +kernel
theorem dX10_meet_100 : decode cX10_meet 100 = .ok (.iconst 1, 1) := by decide +kernel
theorem dX10_meet_101 : decode cX10_meet 101 = .ok (.iaload, 1) := by decide +kernel
theorem dX10_meet_102 : decode cX10_meet 102 = .ok (.goto 26, 3) := by decide +kernel
theorem dX10_meet_105 : decode cX10_meet 105 = .ok (.iload 5, 2) := by decide +kernel
theorem dX10_meet_107 : decode cX10_meet 107 = .ok (.iload_n 2, 1) := by decide +kernel
theorem dX10_meet_108 : decode cX10_meet 108 = .ok (.if_icmp .ne 19, 3) := by decide +kernel
theorem dX10_meet_111 : decode cX10_meet 111 = .ok (.aload_n 0, 1) := by decide +kernel
theorem dX10_meet_112 : decode cX10_meet 112 = .ok (.getfield 40, 3) := by decide +kernel
theorem dX10_meet_115 : decode cX10_meet 115 = .ok (.iconst 0, 1) := by decide +kernel
theorem dX10_meet_116 : decode cX10_meet 116 = .ok (.iaload, 1) := by decide +kernel
theorem dX10_meet_117 : decode cX10_meet 117 = .ok (.aload_n 0, 1) := by decide +kernel
theorem dX10_meet_118 : decode cX10_meet 118 = .ok (.getfield 43, 3) := by decide +kernel
theorem dX10_meet_121 : decode cX10_meet 121 = .ok (.iload_n 2, 1) := by decide +kernel
theorem dX10_meet_122 : decode cX10_meet 122 = .ok (.iaload, 1) := by decide +kernel
theorem dX10_meet_123 : decode cX10_meet 123 = .ok (.iadd, 1) := by decide +kernel
theorem dX10_meet_124 : decode cX10_meet 124 = .ok (.goto 4, 3) := by decide +kernel
theorem dX10_meet_127 : decode cX10_meet 127 = .ok (.iconst 0, 1) := by decide +kernel
theorem dX10_meet_128 : decode cX10_meet 128 = .ok (.istore 8, 2) := by decide +kernel
theorem dX10_meet_130 : decode cX10_meet 130 = .ok (.iload 5, 2) := by decide +kernel
theorem dX10_meet_132 : decode cX10_meet 132 = .ok (.ifCond .ge 12, 3) := by decide +kernel
theorem dX10_meet_135 : decode cX10_meet 135 = .ok (.aload_n 0, 1) := by decide +kernel
theorem dX10_meet_136 : decode cX10_meet 136 = .ok (.getfield 40, 3) := by decide +kernel
theorem dX10_meet_139 : decode cX10_meet 139 = .ok (.iconst 1, 1) := by decide +kernel
theorem dX10_meet_140 : decode cX10_meet 140 = .ok (.iaload, 1) := by decide +kernel
theorem dX10_meet_141 : decode cX10_meet 141 = .ok (.goto 26, 3) := by decide +kernel
theorem dX10_meet_144 : decode cX10_meet 144 = .ok (.iload 5, 2) := by decide +kernel
theorem dX10_meet_146 : decode cX10_meet 146 = .ok (.iload_n 3, 1) := by decide +kernel
theorem dX10_meet_147 : decode cX10_meet 147 = .ok (.if_icmp .ne 19, 3) := by decide +kernel
theorem dX10_meet_150 : decode cX10_meet 150 = .ok (.aload_n 0, 1) := by decide +kernel
theorem dX10_meet_151 : decode cX10_meet 151 = .ok (.getfield 40, 3) := by decide +kernel
theorem dX10_meet_154 : decode cX10_meet 154 = .ok (.iconst 0, 1) := by decide +kernel
theorem dX10_meet_155 : decode cX10_meet 155 = .ok (.iaload, 1) := by decide +kernel
theorem dX10_meet_156 : decode cX10_meet 156 = .ok (.aload_n 0, 1) := by decide +kernel
theorem dX10_meet_157 : decode cX10_meet 157 = .ok (.getfield 43, 3) := by decide +kernel
theorem dX10_meet_160 : decode cX10_meet 160 = .ok (.iload_n 3, 1) := by decide +kernel
theorem dX10_meet_161 : decode cX10_meet 161 = .ok (.iaload, 1) := by decide +kernel
theorem dX10_meet_162 : decode cX10_meet 162 = .ok (.iadd, 1) := by decide +kernel
theorem dX10_meet_163 : decode cX10_meet 163 = .ok (.goto 4, 3) := by decide +kernel
theorem dX10_meet_166 : decode cX10_meet 166 = .ok (.iconst 0, 1) := by decide +kernel
theorem dX10_meet_167 : decode cX10_meet 167 = .ok (.istore 9, 2) := by decide +kernel
theorem dX10_meet_169 : decode cX10_meet 169 = .ok (.aload_n 0, 1) := by decide +kernel
theorem dX10_meet_170 : decode cX10_meet 170 = .ok (.iload_n 2, 1) := by decide +kernel
theorem dX10_meet_171 : decode cX10_meet 171 = .ok (.iload 8, 2) := by decide +kernel
theorem dX10_meet_173 : decode cX10_meet 173 = .ok (.iload 7, 2) := by decide +kernel
theorem dX10_meet_175 : decode cX10_meet 175 = .ok (.iadd, 1) := by decide +kernel
theorem dX10_meet_176 : decode cX10_meet 176 = .ok (.iload 4, 2) := by decide +kernel
theorem dX10_meet_178 : decode cX10_meet 178 = .ok (.invokevirtual 191, 3) := by decide +kernel
theorem dX10_meet_181 : decode cX10_meet 181 = .ok (.aload_n 0, 1) := by decide +kernel
theorem dX10_meet_182 : decode cX10_meet 182 = .ok (.iload_n 3, 1) := by decide +kernel
theorem dX10_meet_183 : decode cX10_meet 183 = .ok (.iload 9, 2) := by decide +kernel
theorem dX10_meet_185 : decode cX10_meet 185 = .ok (.iload 7, 2) := by decide +kernel
theorem dX10_meet_187 : decode cX10_meet 187 = .ok (.iadd, 1) := by decide +kernel
theorem dX10_meet_188 : decode cX10_meet 188 = .ok (.iload 4, 2) := by decide +kernel
theorem dX10_meet_190 : decode cX10_meet 190 = .ok (.invokevirtual 191, 3) := by decide +kernel
theorem dX10_meet_193 : decode cX10_meet 193 = .ok (.aload_n 0, 1) := by decide +kernel
theorem dX10_meet_194 : decode cX10_meet 194 = .ok (.getfield 73, 3) := by decide +kernel
theorem dX10_meet_197 : decode cX10_meet 197 = .ok (.iload_n 2, 1) := by decide +kernel
theorem dX10_meet_198 : decode cX10_meet 198 = .ok (.dup2, 1) := by decide +kernel
theorem dX10_meet_199 : decode cX10_meet 199 = .ok (.iaload, 1) := by decide +kernel
theorem dX10_meet_200 : decode cX10_meet 200 = .ok (.iload 5, 2) := by decide +kernel
theorem dX10_meet_202 : decode cX10_meet 202 = .ok (.iload_n 2, 1) := by decide +kernel
theorem dX10_meet_203 : decode cX10_meet 203 = .ok (.if_icmp .ne 7, 3) := by decide +kernel
theorem dX10_meet_206 : decode cX10_meet 206 = .ok (.iconst 1, 1) := by decide +kernel
theorem dX10_meet_207 : decode cX10_meet 207 = .ok (.goto 4, 3) := by decide +kernel
theorem dX10_meet_210 : decode cX10_meet 210 = .ok (.iconst 0, 1) := by decide +kernel
theorem dX10_meet_211 : decode cX10_meet 211 = .ok (.iadd, 1) := by decide +kernel
theorem dX10_meet_212 : decode cX10_meet 212 = .ok (.iastore, 1) := by decide +kernel
theorem dX10_meet_213 : decode cX10_meet 213 = .ok (.aload_n 0, 1) := by decide +kernel
theorem dX10_meet_214 : decode cX10_meet 214 = .ok (.getfield 73, 3) := by decide +kernel
theorem dX10_meet_217 : decode cX10_meet 217 = .ok (.iload_n 3, 1) := by decide +kernel
theorem dX10_meet_218 : decode cX10_meet 218 = .ok (.dup2, 1) := by decide +kernel
theorem dX10_meet_219 : decode cX10_meet 219 = .ok (.iaload, 1) := by decide +kernel
theorem dX10_meet_220 : decode cX10_meet 220 = .ok (.iload 5, 2) := by decide +kernel
theorem dX10_meet_222 : decode cX10_meet 222 = .ok (.iload_n 3, 1) := by decide +kernel
theorem dX10_meet_223 : decode cX10_meet 223 = .ok (.if_icmp .ne 7, 3) := by decide +kernel
theorem dX10_meet_226 : decode cX10_meet 226 = .ok (.iconst 1, 1) := by decide +kernel
theorem dX10_meet_227 : decode cX10_meet 227 = .ok (.goto 4, 3) := by decide +kernel
theorem dX10_meet_230 : decode cX10_meet 230 = .ok (.iconst 0, 1) := by decide +kernel
theorem dX10_meet_231 : decode cX10_meet 231 = .ok (.iadd, 1) := by decide +kernel
theorem dX10_meet_232 : decode cX10_meet 232 = .ok (.iastore, 1) := by decide +kernel
theorem dX10_meet_233 : decode cX10_meet 233 = .ok (.aload_n 0, 1) := by decide +kernel
theorem dX10_meet_234 : decode cX10_meet 234 = .ok (.getfield 79, 3) := by decide +kernel
theorem dX10_meet_237 : decode cX10_meet 237 = .ok (.aload_n 0, 1) := by decide +kernel
theorem dX10_meet_238 : decode cX10_meet 238 = .ok (.getfield 195, 3) := by decide +kernel
theorem dX10_meet_241 : decode cX10_meet 241 = .ok (.iload 4, 2) := by decide +kernel
theorem dX10_meet_243 : decode cX10_meet 243 = .ok (.iastore, 1) := by decide +kernel
theorem dX10_meet_244 : decode cX10_meet 244 = .ok (.aload_n 0, 1) := by decide +kernel
theorem dX10_meet_245 : decode cX10_meet 245 = .ok (.getfield 82, 3) := by decide +kernel
theorem dX10_meet_248 : decode cX10_meet 248 = .ok (.aload_n 0, 1) := by decide +kernel
theorem dX10_meet_249 : decode cX10_meet 249 = .ok (.getfield 195, 3) := by decide +kernel
theorem dX10_meet_252 : decode cX10_meet 252 = .ok (.bipush 8, 2) := by decide +kernel
theorem dX10_meet_254 : decode cX10_meet 254 = .ok (.iload_n 2, 1) := by decide +kernel
theorem dX10_meet_255 : decode cX10_meet 255 = .ok (.imul, 1) := by decide +kernel
theorem dX10_meet_256 : decode cX10_meet 256 = .ok (.iload_n 3, 1) := by decide +kernel
theorem dX10_meet_257 : decode cX10_meet 257 = .ok (.iadd, 1) := by decide +kernel
theorem dX10_meet_258 : decode cX10_meet 258 = .ok (.iastore, 1) := by decide +kernel
theorem dX10_meet_259 : decode cX10_meet 259 = .ok (.aload_n 0, 1) := by decide +kernel
theorem dX10_meet_260 : decode cX10_meet 260 = .ok (.getfield 85, 3) := by decide +kernel
theorem dX10_meet_263 : decode cX10_meet 263 = .ok (.aload_n 0, 1) := by decide +kernel
theorem dX10_meet_264 : decode cX10_meet 264 = .ok (.getfield 195, 3) := by decide +kernel
theorem dX10_meet_267 : decode cX10_meet 267 = .ok (.iload 5, 2) := by decide +kernel
theorem dX10_meet_269 : decode cX10_meet 269 = .ok (.iastore, 1) := by decide +kernel
theorem dX10_meet_270 : decode cX10_meet 270 = .ok (.aload_n 0, 1) := by decide +kernel
theorem dX10_meet_271 : decode cX10_meet 271 = .ok (.getfield 88, 3) := by decide +kernel
theorem dX10_meet_274 : decode cX10_meet 274 = .ok (.aload_n 0, 1) := by decide +kernel
theorem dX10_meet_275 : decode cX10_meet 275 = .ok (.getfield 195, 3) := by decide +kernel
theorem dX10_meet_278 : decode cX10_meet 278 = .ok (.aload_n 0, 1) := by decide +kernel
theorem dX10_meet_279 : decode cX10_meet 279 = .ok (.getfield 61, 3) := by decide +kernel
theorem dX10_meet_282 : decode cX10_meet 282 = .ok (.bipush 6, 2) := by decide +kernel
theorem dX10_meet_284 : decode cX10_meet 284 = .ok (.iload 4, 2) := by decide +kernel
theorem dX10_meet_286 : decode cX10_meet 286 = .ok (.imul, 1) := by decide +kernel
theorem dX10_meet_287 : decode cX10_meet 287 = .ok (.aload_n 0, 1) := by decide +kernel
theorem dX10_meet_288 : decode cX10_meet 288 = .ok (.getfield 19, 3) := by decide +kernel
theorem dX10_meet_291 : decode cX10_meet 291 = .ok (.iload_n 2, 1) := by decide +kernel
theorem dX10_meet_292 : decode cX10_meet 292 = .ok (.iaload, 1) := by decide +kernel
theorem dX10_meet_293 : decode cX10_meet 293 = .ok (.ifCond .ne 7, 3) := by decide +kernel
theorem dX10_meet_296 : decode cX10_meet 296 = .ok (.iload_n 2, 1) := by decide +kernel
theorem dX10_meet_297 : decode cX10_meet 297 = .ok (.goto 4, 3) := by decide +kernel
theorem dX10_meet_300 : decode cX10_meet 300 = .ok (.iload_n 3, 1) := by decide +kernel
theorem dX10_meet_301 : decode cX10_meet 301 = .ok (.iadd, 1) := by decide +kernel
theorem dX10_meet_302 : decode cX10_meet 302 = .ok (.iaload, 1) := by decide +kernel
theorem dX10_meet_303 : decode cX10_meet 303 = .ok (.iastore, 1) := by decide +kernel
theorem dX10_meet_304 : decode cX10_meet 304 = .ok (.aload_n 0, 1) := by decide +kernel
theorem dX10_meet_305 : decode cX10_meet 305 = .ok (.dup, 1) := by decide +kernel
theorem dX10_meet_306 : decode cX10_meet 306 = .ok (.getfield 195, 3) := by decide +kernel
theorem dX10_meet_309 : decode cX10_meet 309 = .ok (.iconst 1, 1) := by decide +kernel
theorem dX10_meet_310 : decode cX10_meet 310 = .ok (.iadd, 1) := by decide +kernel
theorem dX10_meet_311 : decode cX10_meet 311 = .ok (.putfield 195, 3) := by decide +kernel
theorem dX10_meet_314 : decode cX10_meet 314 = .ok (.return_, 1) := by decide +kernel
theorem dX10_doMeet_0 : decode cX10_doMeet 0 = .ok (.aload_n 0, 1) := by decide +kernel
theorem dX10_doMeet_1 : decode cX10_doMeet 1 = .ok (.getfield 19, 3) := by decide +kernel
theorem dX10_doMeet_4 : decode cX10_doMeet 4 = .ok (.iload_n 1, 1) := by decide +kernel
theorem dX10_doMeet_5 : decode cX10_doMeet 5 = .ok (.iaload, 1) := by decide +kernel
theorem dX10_doMeet_6 : decode cX10_doMeet 6 = .ok (.ifCond .ne 7, 3) := by decide +kernel
theorem dX10_doMeet_9 : decode cX10_doMeet 9 = .ok (.iload_n 1, 1) := by decide +kernel
theorem dX10_doMeet_10 : decode cX10_doMeet 10 = .ok (.goto 4, 3) := by decide +kernel
theorem dX10_doMeet_13 : decode cX10_doMeet 13 = .ok (.iload_n 2, 1) := by decide +kernel
theorem dX10_doMeet_14 : decode cX10_doMeet 14 = .ok (.istore 4, 2) := by decide +kernel
theorem dX10_doMeet_16 : decode cX10_doMeet 16 = .ok (.aload_n 0, 1) := by decide +kernel
theorem dX10_doMeet_17 : decode cX10_doMeet 17 = .ok (.getfield 19, 3) := by decide +kernel
theorem dX10_doMeet_20 : decode cX10_doMeet 20 = .ok (.iload_n 1, 1) := by decide +kernel
theorem dX10_doMeet_21 : decode cX10_doMeet 21 = .ok (.iaload, 1) := by decide +kernel
theorem dX10_doMeet_22 : decode cX10_doMeet 22 = .ok (.ifCond .ne 7, 3) := by decide +kernel
theorem dX10_doMeet_25 : decode cX10_doMeet 25 = .ok (.iload_n 2, 1) := by decide +kernel
theorem dX10_doMeet_26 : decode cX10_doMeet 26 = .ok (.goto 4, 3) := by decide +kernel
theorem dX10_doMeet_29 : decode cX10_doMeet 29 = .ok (.iload_n 1, 1) := by decide +kernel
theorem dX10_doMeet_30 : decode cX10_doMeet 30 = .ok (.istore 5, 2) := by decide +kernel
theorem dX10_doMeet_32 : decode cX10_doMeet 32 = .ok (.aload_n 0, 1) := by decide +kernel
theorem dX10_doMeet_33 : decode cX10_doMeet 33 = .ok (.getfield 19, 3) := by decide +kernel
theorem dX10_doMeet_36 : decode cX10_doMeet 36 = .ok (.iload_n 1, 1) := by decide +kernel
theorem dX10_doMeet_37 : decode cX10_doMeet 37 = .ok (.iaload, 1) := by decide +kernel
theorem dX10_doMeet_38 : decode cX10_doMeet 38 = .ok (.aload_n 0, 1) := by decide +kernel
theorem dX10_doMeet_39 : decode cX10_doMeet 39 = .ok (.getfield 19, 3) := by decide +kernel
theorem dX10_doMeet_42 : decode cX10_doMeet 42 = .ok (.iload_n 2, 1) := by decide +kernel
theorem dX10_doMeet_43 : decode cX10_doMeet 43 = .ok (.iaload, 1) := by decide +kernel
theorem dX10_doMeet_44 : decode cX10_doMeet 44 = .ok (.if_icmp .eq 25, 3) := by decide +kernel
theorem dX10_doMeet_47 : decode cX10_doMeet 47 = .ok (.aload_n 0, 1) := by decide +kernel
theorem dX10_doMeet_48 : decode cX10_doMeet 48 = .ok (.getfield 67, 3) := by decide +kernel
theorem dX10_doMeet_51 : decode cX10_doMeet 51 = .ok (.iload_n 1, 1) := by decide +kernel
theorem dX10_doMeet_52 : decode cX10_doMeet 52 = .ok (.iaload, 1) := by decide +kernel
theorem dX10_doMeet_53 : decode cX10_doMeet 53 = .ok (.ifCond .ge 16, 3) := by decide +kernel
theorem dX10_doMeet_56 : decode cX10_doMeet 56 = .ok (.aload_n 0, 1) := by decide +kernel
theorem dX10_doMeet_57 : decode cX10_doMeet 57 = .ok (.getfield 67, 3) := by decide +kernel
theorem dX10_doMeet_60 : decode cX10_doMeet 60 = .ok (.iload_n 2, 1) := by decide +kernel
theorem dX10_doMeet_61 : decode cX10_doMeet 61 = .ok (.iaload, 1) := by decide +kernel
theorem dX10_doMeet_62 : decode cX10_doMeet 62 = .ok (.ifCond .ge 7, 3) := by decide +kernel
theorem dX10_doMeet_65 : decode cX10_doMeet 65 = .ok (.iconst 1, 1) := by decide +kernel
theorem dX10_doMeet_66 : decode cX10_doMeet 66 = .ok (.goto 4, 3) := by decide +kernel
theorem dX10_doMeet_69 : decode cX10_doMeet 69 = .ok (.iconst 0, 1) := by decide +kernel
theorem dX10_doMeet_70 : decode cX10_doMeet 70 = .ok (.istore 6, 2) := by decide +kernel
theorem dX10_doMeet_72 : decode cX10_doMeet 72 = .ok (.iload 6, 2) := by decide +kernel
theorem dX10_doMeet_74 : decode cX10_doMeet 74 = .ok (.ifCond .eq 67, 3) := by decide +kernel
theorem dX10_doMeet_77 : decode cX10_doMeet 77 = .ok (.aload_n 0, 1) := by decide +kernel
theorem dX10_doMeet_78 : decode cX10_doMeet 78 = .ok (.getfield 61, 3) := by decide +kernel
theorem dX10_doMeet_81 : decode cX10_doMeet 81 = .ok (.bipush 6, 2) := by decide +kernel
theorem dX10_doMeet_83 : decode cX10_doMeet 83 = .ok (.iload_n 3, 1) := by decide +kernel
theorem dX10_doMeet_84 : decode cX10_doMeet 84 = .ok (.imul, 1) := by decide +kernel
theorem dX10_doMeet_85 : decode cX10_doMeet 85 = .ok (.bipush 6, 2) := by decide +kernel
theorem dX10_doMeet_87 : decode cX10_doMeet 87 = .ok (.isub, 1) := by decide +kernel
theorem dX10_doMeet_88 : decode cX10_doMeet 88 = .ok (.iload 4, 2) := by decide +kernel
theorem dX10_doMeet_90 : decode cX10_doMeet 90 = .ok (.iadd, 1) := by decide +kernel
theorem dX10_doMeet_91 : decode cX10_doMeet 91 = .ok (.iaload, 1) := by decide +kernel
theorem dX10_doMeet_92 : decode cX10_doMeet 92 = .ok (.aload_n 0, 1) := by decide +kernel
theorem dX10_doMeet_93 : decode cX10_doMeet 93 = .ok (.getfield 61, 3) := by decide +kernel
theorem dX10_doMeet_96 : decode cX10_doMeet 96 = .ok (.bipush 6, 2) := by decide +kernel
theorem dX10_doMeet_98 : decode cX10_doMeet 98 = .ok (.iload_n 3, 1) := by decide +kernel
theorem dX10_doMeet_99 : decode cX10_doMeet 99 = .ok (.imul, 1) := by decide +kernel
theorem dX10_doMeet_100 : decode cX10_doMeet 100 = .ok (.bipush 6, 2) := by decide +kernel
theorem dX10_doMeet_102 : decode cX10_doMeet 102 = .ok (.isub, 1) := by decide +kernel
theorem dX10_doMeet_103 : decode cX10_doMeet 103 = .ok (.iload 5, 2) := by decide +kernel
theorem dX10_doMeet_105 : decode cX10_doMeet 105 = .ok (.iadd, 1) := by decide +kernel
theorem dX10_doMeet_106 : decode cX10_doMeet 106 = .ok (.iaload, 1) := by decide +kernel
theorem dX10_doMeet_107 : decode cX10_doMeet 107 = .ok (.if_icmp .ge 34, 3) := by decide +kernel
theorem dX10_doMeet_110 : decode cX10_doMeet 110 = .ok (.aload_n 0, 1) := by decide +kernel
theorem dX10_doMeet_111 : decode cX10_doMeet 111 = .ok (.getfield 61, 3) := by decide +kernel
theorem dX10_doMeet_114 : decode cX10_doMeet 114 = .ok (.bipush 6, 2) := by decide +kernel
theorem dX10_doMeet_116 : decode cX10_doMeet 116 = .ok (.iload_n 3, 1) := by decide +kernel
theorem dX10_doMeet_117 : decode cX10_doMeet 117 = .ok (.imul, 1) := by decide +kernel
theorem dX10_doMeet_118 : decode cX10_doMeet 118 = .ok (.iload 4, 2) := by decide +kernel
theorem dX10_doMeet_120 : decode cX10_doMeet 120 = .ok (.iadd, 1) := by decide +kernel
theorem dX10_doMeet_121 : decode cX10_doMeet 121 = .ok (.iaload, 1) := by decide +kernel
theorem dX10_doMeet_122 : decode cX10_doMeet 122 = .ok (.aload_n 0, 1) := by decide +kernel
theorem dX10_doMeet_123 : decode cX10_doMeet 123 = .ok (.getfield 61, 3) := by decide +kernel
theorem dX10_doMeet_126 : decode cX10_doMeet 126 = .ok (.bipush 6, 2) := by decide +kernel
theorem dX10_doMeet_128 : decode cX10_doMeet 128 = .ok (.iload_n 3, 1) := by decide +kernel
theorem dX10_doMeet_129 : decode cX10_doMeet 129 = .ok (.imul, 1) := by decide +kernel
theorem dX10_doMeet_130 : decode cX10_doMeet 130 = .ok (.iload 5, 2) := by decide +kernel
theorem dX10_doMeet_132 : decode cX10_doMeet 132 = .ok (.iadd, 1) := by decide +kernel
theorem dX10_doMeet_133 : decode cX10_doMeet 133 = .ok (.iaload, 1) := by decide +kernel
theorem dX10_doMeet_134 : decode cX10_doMeet 134 = .ok (.if_icmp .lt 7, 3) := by decide +kernel
theorem dX10_doMeet_137 : decode cX10_doMeet 137 = .ok (.iconst 1, 1) := by decide +kernel
theorem dX10_doMeet_138 : decode cX10_doMeet 138 = .ok (.goto 4, 3) := by decide +kernel
theorem dX10_doMeet_141 : decode cX10_doMeet 141 = .ok (.iconst 0, 1) := by decide +kernel
theorem dX10_doMeet_142 : decode cX10_doMeet 142 = .ok (.ireturn, 1) := by decide +kernel
theorem dX10_goMinute_0 : decode cX10_goMinute 0 = .ok (.iconst 0, 1) := by decide +kernel
theorem dX10_goMinute_1 : decode cX10_goMinute 1 = .ok (.istore_n 3, 1) := by decide +kernel
theorem dX10_goMinute_2 : decode cX10_goMinute 2 = .ok (.iload_n 3, 1) := by decide +kernel
theorem dX10_goMinute_3 : decode cX10_goMinute 3 = .ok (.aload_n 0, 1) := by decide +kernel
theorem dX10_goMinute_4 : decode cX10_goMinute 4 = .ok (.getfield 13, 3) := by decide +kernel
theorem dX10_goMinute_7 : decode cX10_goMinute 7 = .ok (.iconst 0, 1) := by decide +kernel
theorem dX10_goMinute_8 : decode cX10_goMinute 8 = .ok (.iaload, 1) := by decide +kernel
theorem dX10_goMinute_9 : decode cX10_goMinute 9 = .ok (.if_icmp .ge 149, 3) := by decide +kernel
theorem dX10_goMinute_12 : decode cX10_goMinute 12 = .ok (.aload_n 0, 1) := by decide +kernel
end
section
theorem dX10_goMinute_13 : decode cX10_goMinute 13 = .ok (.getfield 61, 3) := by decide +kernel
theorem dX10_goMinute_16 : decode cX10_goMinute 16 = .ok (.bipush 6, 2) := by decide +kernel
theorem dX10_goMinute_18 : decode cX10_goMinute 18 = .ok (.iload_n 2, 1) := by decide +kernel
theorem dX10_goMinute_19 : decode cX10_goMinute 19 = .ok (.imul, 1) := by decide +kernel
theorem dX10_goMinute_20 : decode cX10_goMinute 20 = .ok (.bipush 6, 2) := by decide +kernel
theorem dX10_goMinute_22 : decode cX10_goMinute 22 = .ok (.isub, 1) := by decide +kernel
theorem dX10_goMinute_23 : decode cX10_goMinute 23 = .ok (.iload_n 3, 1) := by decide +kernel
theorem dX10_goMinute_24 : decode cX10_goMinute 24 = .ok (.iadd, 1) := by decide +kernel
theorem dX10_goMinute_25 : decode cX10_goMinute 25 = .ok (.iaload, 1) := by decide +kernel
theorem dX10_goMinute_26 : decode cX10_goMinute 26 = .ok (.istore 4, 2) := by decide +kernel
theorem dX10_goMinute_28 : decode cX10_goMinute 28 = .ok (.aload_n 0, 1) := by decide +kernel
theorem dX10_goMinute_29 : decode cX10_goMinute 29 = .ok (.getfield 67, 3) := by decide +kernel
theorem dX10_goMinute_32 : decode cX10_goMinute 32 = .ok (.iload_n 3, 1) := by decide +kernel
theorem dX10_goMinute_33 : decode cX10_goMinute 33 = .ok (.iaload, 1) := by decide +kernel
theorem dX10_goMinute_34 : decode cX10_goMinute 34 = .ok (.ifCond .ge 16, 3) := by decide +kernel
theorem dX10_goMinute_37 : decode cX10_goMinute 37 = .ok (.aload_n 0, 1) := by decide +kernel
theorem dX10_goMinute_38 : decode cX10_goMinute 38 = .ok (.getfield 64, 3) := by decide +kernel
theorem dX10_goMinute_41 : decode cX10_goMinute 41 = .ok (.iload_n 3, 1) := by decide +kernel
theorem dX10_goMinute_42 : decode cX10_goMinute 42 = .ok (.iaload, 1) := by decide +kernel
theorem dX10_goMinute_43 : decode cX10_goMinute 43 = .ok (.ifCond .ne 7, 3) := by decide +kernel
theorem dX10_goMinute_46 : decode cX10_goMinute 46 = .ok (.iconst 1, 1) := by decide +kernel
theorem dX10_goMinute_47 : decode cX10_goMinute 47 = .ok (.goto 4, 3) := by decide +kernel
theorem dX10_goMinute_50 : decode cX10_goMinute 50 = .ok (.iconst 0, 1) := by decide +kernel
theorem dX10_goMinute_51 : decode cX10_goMinute 51 = .ok (.istore 5, 2) := by decide +kernel
theorem dX10_goMinute_53 : decode cX10_goMinute 53 = .ok (.aload_n 0, 1) := by decide +kernel
theorem dX10_goMinute_54 : decode cX10_goMinute 54 = .ok (.getfield 19, 3) := by decide +kernel
theorem dX10_goMinute_57 : decode cX10_goMinute 57 = .ok (.iload_n 3, 1) := by decide +kernel
theorem dX10_goMinute_58 : decode cX10_goMinute 58 = .ok (.iaload, 1) := by decide +kernel
theorem dX10_goMinute_59 : decode cX10_goMinute 59 = .ok (.ifCond .ne 15, 3) := by decide +kernel
theorem dX10_goMinute_62 : decode cX10_goMinute 62 = .ok (.iload 4, 2) := by decide +kernel
theorem dX10_goMinute_64 : decode cX10_goMinute 64 = .ok (.aload_n 0, 1) := by decide +kernel
theorem dX10_goMinute_65 : decode cX10_goMinute 65 = .ok (.getfield 22, 3) := by decide +kernel
theorem dX10_goMinute_68 : decode cX10_goMinute 68 = .ok (.iload_n 3, 1) := by decide +kernel
theorem dX10_goMinute_69 : decode cX10_goMinute 69 = .ok (.iaload, 1) := by decide +kernel
theorem dX10_goMinute_70 : decode cX10_goMinute 70 = .ok (.iadd, 1) := by decide +kernel
theorem dX10_goMinute_71 : decode cX10_goMinute 71 = .ok (.goto 12, 3) := by decide +kernel
theorem dX10_goMinute_74 : decode cX10_goMinute 74 = .ok (.iload 4, 2) := by decide +kernel
theorem dX10_goMinute_76 : decode cX10_goMinute 76 = .ok (.aload_n 0, 1) := by decide +kernel
theorem dX10_goMinute_77 : decode cX10_goMinute 77 = .ok (.getfield 22, 3) := by decide +kernel
theorem dX10_goMinute_80 : decode cX10_goMinute 80 = .ok (.iload_n 3, 1) := by decide +kernel
theorem dX10_goMinute_81 : decode cX10_goMinute 81 = .ok (.iaload, 1) := by decide +kernel
theorem dX10_goMinute_82 : decode cX10_goMinute 82 = .ok (.isub, 1) := by decide +kernel
theorem dX10_goMinute_83 : decode cX10_goMinute 83 = .ok (.istore 6, 2) := by decide +kernel
theorem dX10_goMinute_85 : decode cX10_goMinute 85 = .ok (.aload_n 0, 1) := by decide +kernel
theorem dX10_goMinute_86 : decode cX10_goMinute 86 = .ok (.getfield 61, 3) := by decide +kernel
theorem dX10_goMinute_89 : decode cX10_goMinute 89 = .ok (.bipush 6, 2) := by decide +kernel
theorem dX10_goMinute_91 : decode cX10_goMinute 91 = .ok (.iload_n 2, 1) := by decide +kernel
theorem dX10_goMinute_92 : decode cX10_goMinute 92 = .ok (.imul, 1) := by decide +kernel
theorem dX10_goMinute_93 : decode cX10_goMinute 93 = .ok (.iload_n 3, 1) := by decide +kernel
theorem dX10_goMinute_94 : decode cX10_goMinute 94 = .ok (.iadd, 1) := by decide +kernel
theorem dX10_goMinute_95 : decode cX10_goMinute 95 = .ok (.iload 5, 2) := by decide +kernel
theorem dX10_goMinute_97 : decode cX10_goMinute 97 = .ok (.ifCond .ne 8, 3) := by decide +kernel
theorem dX10_goMinute_100 : decode cX10_goMinute 100 = .ok (.iload 4, 2) := by decide +kernel
theorem dX10_goMinute_102 : decode cX10_goMinute 102 = .ok (.goto 26, 3) := by decide +kernel
theorem dX10_goMinute_105 : decode cX10_goMinute 105 = .ok (.iload 6, 2) := by decide +kernel
theorem dX10_goMinute_107 : decode cX10_goMinute 107 = .ok (.bipush 60, 2) := by decide +kernel
theorem dX10_goMinute_109 : decode cX10_goMinute 109 = .ok (.if_icmp .le 8, 3) := by decide +kernel
theorem dX10_goMinute_112 : decode cX10_goMinute 112 = .ok (.bipush 60, 2) := by decide +kernel
theorem dX10_goMinute_114 : decode cX10_goMinute 114 = .ok (.goto 14, 3) := by decide +kernel
theorem dX10_goMinute_117 : decode cX10_goMinute 117 = .ok (.iload 6, 2) := by decide +kernel
theorem dX10_goMinute_119 : decode cX10_goMinute 119 = .ok (.ifCond .ge 7, 3) := by decide +kernel
theorem dX10_goMinute_122 : decode cX10_goMinute 122 = .ok (.iconst 0, 1) := by decide +kernel
theorem dX10_goMinute_123 : decode cX10_goMinute 123 = .ok (.goto 5, 3) := by decide +kernel
theorem dX10_goMinute_126 : decode cX10_goMinute 126 = .ok (.iload 6, 2) := by decide +kernel
theorem dX10_goMinute_128 : decode cX10_goMinute 128 = .ok (.iastore, 1) := by decide +kernel
theorem dX10_goMinute_129 : decode cX10_goMinute 129 = .ok (.aload_n 0, 1) := by decide +kernel
theorem dX10_goMinute_130 : decode cX10_goMinute 130 = .ok (.getfield 64, 3) := by decide +kernel
theorem dX10_goMinute_133 : decode cX10_goMinute 133 = .ok (.iload_n 3, 1) := by decide +kernel
theorem dX10_goMinute_134 : decode cX10_goMinute 134 = .ok (.dup2, 1) := by decide +kernel
theorem dX10_goMinute_135 : decode cX10_goMinute 135 = .ok (.iaload, 1) := by decide +kernel
theorem dX10_goMinute_136 : decode cX10_goMinute 136 = .ok (.aload_n 0, 1) := by decide +kernel
theorem dX10_goMinute_137 : decode cX10_goMinute 137 = .ok (.getfield 64, 3) := by decide +kernel
theorem dX10_goMinute_140 : decode cX10_goMinute 140 = .ok (.iload_n 3, 1) := by decide +kernel
theorem dX10_goMinute_141 : decode cX10_goMinute 141 = .ok (.iaload, 1) := by decide +kernel
theorem dX10_goMinute_142 : decode cX10_goMinute 142 = .ok (.ifCond .le 7, 3) := by decide +kernel
theorem dX10_goMinute_145 : decode cX10_goMinute 145 = .ok (.iconst 1, 1) := by decide +kernel
theorem dX10_goMinute_146 : decode cX10_goMinute 146 = .ok (.goto 4, 3) := by decide +kernel
theorem dX10_goMinute_149 : decode cX10_goMinute 149 = .ok (.iconst 0, 1) := by decide +kernel
theorem dX10_goMinute_150 : decode cX10_goMinute 150 = .ok (.isub, 1) := by decide +kernel
theorem dX10_goMinute_151 : decode cX10_goMinute 151 = .ok (.iastore, 1) := by decide +kernel
theorem dX10_goMinute_152 : decode cX10_goMinute 152 = .ok (.iinc 3 1, 3) := by decide +kernel
theorem dX10_goMinute_155 : decode cX10_goMinute 155 = .ok (.goto (-153), 3) := by decide +kernel
theorem dX10_goMinute_158 : decode cX10_goMinute 158 = .ok (.iconst 0, 1) := by decide +kernel
theorem dX10_goMinute_159 : decode cX10_goMinute 159 = .ok (.istore_n 3, 1) := by decide +kernel
theorem dX10_goMinute_160 : decode cX10_goMinute 160 = .ok (.iload_n 3, 1) := by decide +kernel
theorem dX10_goMinute_161 : decode cX10_goMinute 161 = .ok (.aload_n 0, 1) := by decide +kernel
theorem dX10_goMinute_162 : decode cX10_goMinute 162 = .ok (.getfield 13, 3) := by decide +kernel
theorem dX10_goMinute_165 : decode cX10_goMinute 165 = .ok (.iconst 0, 1) := by decide +kernel
theorem dX10_goMinute_166 : decode cX10_goMinute 166 = .ok (.iaload, 1) := by decide +kernel
theorem dX10_goMinute_167 : decode cX10_goMinute 167 = .ok (.if_icmp .ge 51, 3) := by decide +kernel
theorem dX10_goMinute_170 : decode cX10_goMinute 170 = .ok (.iload_n 3, 1) := by decide +kernel
theorem dX10_goMinute_171 : decode cX10_goMinute 171 = .ok (.iconst 1, 1) := by decide +kernel
theorem dX10_goMinute_172 : decode cX10_goMinute 172 = .ok (.iadd, 1) := by decide +kernel
theorem dX10_goMinute_173 : decode cX10_goMinute 173 = .ok (.istore 4, 2) := by decide +kernel
theorem dX10_goMinute_175 : decode cX10_goMinute 175 = .ok (.iload 4, 2) := by decide +kernel
theorem dX10_goMinute_177 : decode cX10_goMinute 177 = .ok (.aload_n 0, 1) := by decide +kernel
theorem dX10_goMinute_178 : decode cX10_goMinute 178 = .ok (.getfield 13, 3) := by decide +kernel
theorem dX10_goMinute_181 : decode cX10_goMinute 181 = .ok (.iconst 0, 1) := by decide +kernel
theorem dX10_goMinute_182 : decode cX10_goMinute 182 = .ok (.iaload, 1) := by decide +kernel
theorem dX10_goMinute_183 : decode cX10_goMinute 183 = .ok (.if_icmp .ge 29, 3) := by decide +kernel
theorem dX10_goMinute_186 : decode cX10_goMinute 186 = .ok (.aload_n 0, 1) := by decide +kernel
theorem dX10_goMinute_187 : decode cX10_goMinute 187 = .ok (.iload_n 3, 1) := by decide +kernel
theorem dX10_goMinute_188 : decode cX10_goMinute 188 = .ok (.iload 4, 2) := by decide +kernel
theorem dX10_goMinute_190 : decode cX10_goMinute 190 = .ok (.iload_n 2, 1) := by decide +kernel
theorem dX10_goMinute_191 : decode cX10_goMinute 191 = .ok (.invokevirtual 198, 3) := by decide +kernel
theorem dX10_goMinute_194 : decode cX10_goMinute 194 = .ok (.ifCond .eq 12, 3) := by decide +kernel
theorem dX10_goMinute_197 : decode cX10_goMinute 197 = .ok (.aload_n 0, 1) := by decide +kernel
theorem dX10_goMinute_198 : decode cX10_goMinute 198 = .ok (.iload_n 1, 1) := by decide +kernel
theorem dX10_goMinute_199 : decode cX10_goMinute 199 = .ok (.iload_n 3, 1) := by decide +kernel
theorem dX10_goMinute_200 : decode cX10_goMinute 200 = .ok (.iload 4, 2) := by decide +kernel
theorem dX10_goMinute_202 : decode cX10_goMinute 202 = .ok (.iload_n 2, 1) := by decide +kernel
theorem dX10_goMinute_203 : decode cX10_goMinute 203 = .ok (.invokevirtual 201, 3) := by decide +kernel
theorem dX10_goMinute_206 : decode cX10_goMinute 206 = .ok (.iinc 4 1, 3) := by decide +kernel
theorem dX10_goMinute_209 : decode cX10_goMinute 209 = .ok (.goto (-34), 3) := by decide +kernel
theorem dX10_goMinute_212 : decode cX10_goMinute 212 = .ok (.iinc 3 1, 3) := by decide +kernel
theorem dX10_goMinute_215 : decode cX10_goMinute 215 = .ok (.goto (-55), 3) := by decide +kernel
theorem dX10_goMinute_218 : decode cX10_goMinute 218 = .ok (.iconst 0, 1) := by decide +kernel
theorem dX10_goMinute_219 : decode cX10_goMinute 219 = .ok (.istore_n 3, 1) := by decide +kernel
theorem dX10_goMinute_220 : decode cX10_goMinute 220 = .ok (.iload_n 3, 1) := by decide +kernel
theorem dX10_goMinute_221 : decode cX10_goMinute 221 = .ok (.aload_n 0, 1) := by decide +kernel
theorem dX10_goMinute_222 : decode cX10_goMinute 222 = .ok (.getfield 13, 3) := by decide +kernel
theorem dX10_goMinute_225 : decode cX10_goMinute 225 = .ok (.iconst 0, 1) := by decide +kernel
theorem dX10_goMinute_226 : decode cX10_goMinute 226 = .ok (.iaload, 1) := by decide +kernel
theorem dX10_goMinute_227 : decode cX10_goMinute 227 = .ok (.if_icmp .ge 53, 3) := by decide +kernel
theorem dX10_goMinute_230 : decode cX10_goMinute 230 = .ok (.aload_n 0, 1) := by decide +kernel
theorem dX10_goMinute_231 : decode cX10_goMinute 231 = .ok (.getfield 67, 3) := by decide +kernel
theorem dX10_goMinute_234 : decode cX10_goMinute 234 = .ok (.iload_n 3, 1) := by decide +kernel
theorem dX10_goMinute_235 : decode cX10_goMinute 235 = .ok (.aload_n 0, 1) := by decide +kernel
theorem dX10_goMinute_236 : decode cX10_goMinute 236 = .ok (.getfield 67, 3) := by decide +kernel
theorem dX10_goMinute_239 : decode cX10_goMinute 239 = .ok (.iload_n 3, 1) := by decide +kernel
theorem dX10_goMinute_240 : decode cX10_goMinute 240 = .ok (.iaload, 1) := by decide +kernel
theorem dX10_goMinute_241 : decode cX10_goMinute 241 = .ok (.ifCond .ge 26, 3) := by decide +kernel
theorem dX10_goMinute_244 : decode cX10_goMinute 244 = .ok (.aload_n 0, 1) := by decide +kernel
theorem dX10_goMinute_245 : decode cX10_goMinute 245 = .ok (.getfield 61, 3) := by decide +kernel
theorem dX10_goMinute_248 : decode cX10_goMinute 248 = .ok (.bipush 6, 2) := by decide +kernel
theorem dX10_goMinute_250 : decode cX10_goMinute 250 = .ok (.iload_n 2, 1) := by decide +kernel
theorem dX10_goMinute_251 : decode cX10_goMinute 251 = .ok (.imul, 1) := by decide +kernel
theorem dX10_goMinute_252 : decode cX10_goMinute 252 = .ok (.iload_n 3, 1) := by decide +kernel
theorem dX10_goMinute_253 : decode cX10_goMinute 253 = .ok (.iadd, 1) := by decide +kernel
theorem dX10_goMinute_254 : decode cX10_goMinute 254 = .ok (.iaload, 1) := by decide +kernel
theorem dX10_goMinute_255 : decode cX10_goMinute 255 = .ok (.aload_n 0, 1) := by decide +kernel
theorem dX10_goMinute_256 : decode cX10_goMinute 256 = .ok (.iload_n 3, 1) := by decide +kernel
theorem dX10_goMinute_257 : decode cX10_goMinute 257 = .ok (.invokevirtual 182, 3) := by decide +kernel
theorem dX10_goMinute_260 : decode cX10_goMinute 260 = .ok (.if_icmp .ne 7, 3) := by decide +kernel
theorem dX10_goMinute_263 : decode cX10_goMinute 263 = .ok (.iload_n 2, 1) := by decide +kernel
theorem dX10_goMinute_264 : decode cX10_goMinute 264 = .ok (.goto 9, 3) := by decide +kernel
theorem dX10_goMinute_267 : decode cX10_goMinute 267 = .ok (.aload_n 0, 1) := by decide +kernel
theorem dX10_goMinute_268 : decode cX10_goMinute 268 = .ok (.getfield 67, 3) := by decide +kernel
theorem dX10_goMinute_271 : decode cX10_goMinute 271 = .ok (.iload_n 3, 1) := by decide +kernel
theorem dX10_goMinute_272 : decode cX10_goMinute 272 = .ok (.iaload, 1) := by decide +kernel
theorem dX10_goMinute_273 : decode cX10_goMinute 273 = .ok (.iastore, 1) := by decide +kernel
theorem dX10_goMinute_274 : decode cX10_goMinute 274 = .ok (.iinc 3 1, 3) := by decide +kernel
theorem dX10_goMinute_277 : decode cX10_goMinute 277 = .ok (.goto (-57), 3) := by decide +kernel
theorem dX10_goMinute_280 : decode cX10_goMinute 280 = .ok (.return_, 1) := by decide +kernel
theorem dX10_goDay_0 : decode cX10_goDay 0 = .ok (.aload_n 0, 1) := by decide +kernel
theorem dX10_goDay_1 : decode cX10_goDay 1 = .ok (.iconst 0, 1) := by decide +kernel
theorem dX10_goDay_2 : decode cX10_goDay 2 = .ok (.putfield 195, 3) := by decide +kernel
theorem dX10_goDay_5 : decode cX10_goDay 5 = .ok (.iconst 0, 1) := by decide +kernel
theorem dX10_goDay_6 : decode cX10_goDay 6 = .ok (.istore_n 2, 1) := by decide +kernel
theorem dX10_goDay_7 : decode cX10_goDay 7 = .ok (.iload_n 2, 1) := by decide +kernel
theorem dX10_goDay_8 : decode cX10_goDay 8 = .ok (.aload_n 0, 1) := by decide +kernel
theorem dX10_goDay_9 : decode cX10_goDay 9 = .ok (.getfield 13, 3) := by decide +kernel
theorem dX10_goDay_12 : decode cX10_goDay 12 = .ok (.iconst 0, 1) := by decide +kernel
theorem dX10_goDay_13 : decode cX10_goDay 13 = .ok (.iaload, 1) := by decide +kernel
theorem dX10_goDay_14 : decode cX10_goDay 14 = .ok (.if_icmp .ge 96, 3) := by decide +kernel
theorem dX10_goDay_17 : decode cX10_goDay 17 = .ok (.aload_n 0, 1) := by decide +kernel
theorem dX10_goDay_18 : decode cX10_goDay 18 = .ok (.getfield 61, 3) := by decide +kernel
theorem dX10_goDay_21 : decode cX10_goDay 21 = .ok (.iload_n 2, 1) := by decide +kernel
theorem dX10_goDay_22 : decode cX10_goDay 22 = .ok (.aload_n 0, 1) := by decide +kernel
theorem dX10_goDay_23 : decode cX10_goDay 23 = .ok (.getfield 16, 3) := by decide +kernel
theorem dX10_goDay_26 : decode cX10_goDay 26 = .ok (.iload_n 2, 1) := by decide +kernel
theorem dX10_goDay_27 : decode cX10_goDay 27 = .ok (.iaload, 1) := by decide +kernel
theorem dX10_goDay_28 : decode cX10_goDay 28 = .ok (.iastore, 1) := by decide +kernel
theorem dX10_goDay_29 : decode cX10_goDay 29 = .ok (.aload_n 0, 1) := by decide +kernel
theorem dX10_goDay_30 : decode cX10_goDay 30 = .ok (.getfield 64, 3) := by decide +kernel
theorem dX10_goDay_33 : decode cX10_goDay 33 = .ok (.iload_n 2, 1) := by decide +kernel
theorem dX10_goDay_34 : decode cX10_goDay 34 = .ok (.aload_n 0, 1) := by decide +kernel
theorem dX10_goDay_35 : decode cX10_goDay 35 = .ok (.getfield 43, 3) := by decide +kernel
theorem dX10_goDay_38 : decode cX10_goDay 38 = .ok (.bipush 6, 2) := by decide +kernel
theorem dX10_goDay_40 : decode cX10_goDay 40 = .ok (.iload_n 2, 1) := by decide +kernel
theorem dX10_goDay_41 : decode cX10_goDay 41 = .ok (.iadd, 1) := by decide +kernel
theorem dX10_goDay_42 : decode cX10_goDay 42 = .ok (.iaload, 1) := by decide +kernel
theorem dX10_goDay_43 : decode cX10_goDay 43 = .ok (.iastore, 1) := by decide +kernel
theorem dX10_goDay_44 : decode cX10_goDay 44 = .ok (.aload_n 0, 1) := by decide +kernel
theorem dX10_goDay_45 : decode cX10_goDay 45 = .ok (.getfield 67, 3) := by decide +kernel
theorem dX10_goDay_48 : decode cX10_goDay 48 = .ok (.iload_n 2, 1) := by decide +kernel
theorem dX10_goDay_49 : decode cX10_goDay 49 = .ok (.aload_n 0, 1) := by decide +kernel
theorem dX10_goDay_50 : decode cX10_goDay 50 = .ok (.getfield 16, 3) := by decide +kernel
theorem dX10_goDay_53 : decode cX10_goDay 53 = .ok (.iload_n 2, 1) := by decide +kernel
theorem dX10_goDay_54 : decode cX10_goDay 54 = .ok (.iaload, 1) := by decide +kernel
theorem dX10_goDay_55 : decode cX10_goDay 55 = .ok (.aload_n 0, 1) := by decide +kernel
theorem dX10_goDay_56 : decode cX10_goDay 56 = .ok (.iload_n 2, 1) := by decide +kernel
theorem dX10_goDay_57 : decode cX10_goDay 57 = .ok (.invokevirtual 182, 3) := by decide +kernel
theorem dX10_goDay_60 : decode cX10_goDay 60 = .ok (.if_icmp .ne 7, 3) := by decide +kernel
theorem dX10_goDay_63 : decode cX10_goDay 63 = .ok (.iconst 0, 1) := by decide +kernel
theorem dX10_goDay_64 : decode cX10_goDay 64 = .ok (.goto 5, 3) := by decide +kernel
theorem dX10_goDay_67 : decode cX10_goDay 67 = .ok (.bipush (-4), 2) := by decide +kernel
theorem dX10_goDay_69 : decode cX10_goDay 69 = .ok (.iastore, 1) := by decide +kernel
theorem dX10_goDay_70 : decode cX10_goDay 70 = .ok (.aload_n 0, 1) := by decide +kernel
theorem dX10_goDay_71 : decode cX10_goDay 71 = .ok (.getfield 70, 3) := by decide +kernel
theorem dX10_goDay_74 : decode cX10_goDay 74 = .ok (.iload_n 2, 1) := by decide +kernel
theorem dX10_goDay_75 : decode cX10_goDay 75 = .ok (.iconst 0, 1) := by decide +kernel
theorem dX10_goDay_76 : decode cX10_goDay 76 = .ok (.iastore, 1) := by decide +kernel
theorem dX10_goDay_77 : decode cX10_goDay 77 = .ok (.aload_n 0, 1) := by decide +kernel
theorem dX10_goDay_78 : decode cX10_goDay 78 = .ok (.getfield 73, 3) := by decide +kernel
theorem dX10_goDay_81 : decode cX10_goDay 81 = .ok (.iload_n 2, 1) := by decide +kernel
theorem dX10_goDay_82 : decode cX10_goDay 82 = .ok (.iconst 0, 1) := by decide +kernel
theorem dX10_goDay_83 : decode cX10_goDay 83 = .ok (.iastore, 1) := by decide +kernel
theorem dX10_goDay_84 : decode cX10_goDay 84 = .ok (.aload_n 0, 1) := by decide +kernel
theorem dX10_goDay_85 : decode cX10_goDay 85 = .ok (.getfield 76, 3) := by decide +kernel
theorem dX10_goDay_88 : decode cX10_goDay 88 = .ok (.iload_n 2, 1) := by decide +kernel
theorem dX10_goDay_89 : decode cX10_goDay 89 = .ok (.aload_n 0, 1) := by decide +kernel
theorem dX10_goDay_90 : decode cX10_goDay 90 = .ok (.getfield 67, 3) := by decide +kernel
theorem dX10_goDay_93 : decode cX10_goDay 93 = .ok (.iload_n 2, 1) := by decide +kernel
theorem dX10_goDay_94 : decode cX10_goDay 94 = .ok (.iaload, 1) := by decide +kernel
theorem dX10_goDay_95 : decode cX10_goDay 95 = .ok (.ifCond .ne 7, 3) := by decide +kernel
theorem dX10_goDay_98 : decode cX10_goDay 98 = .ok (.iconst 0, 1) := by decide +kernel
theorem dX10_goDay_99 : decode cX10_goDay 99 = .ok (.goto 4, 3) := by decide +kernel
theorem dX10_goDay_102 : decode cX10_goDay 102 = .ok (.iconst 1, 1) := by decide +kernel
theorem dX10_goDay_103 : decode cX10_goDay 103 = .ok (.iastore, 1) := by decide +kernel
theorem dX10_goDay_104 : decode cX10_goDay 104 = .ok (.iinc 2 1, 3) := by decide +kernel
theorem dX10_goDay_107 : decode cX10_goDay 107 = .ok (.goto (-100), 3) := by decide +kernel
theorem dX10_goDay_110 : decode cX10_goDay 110 = .ok (.iconst 1, 1) := by decide +kernel
theorem dX10_goDay_111 : decode cX10_goDay 111 = .ok (.istore_n 2, 1) := by decide +kernel
theorem dX10_goDay_112 : decode cX10_goDay 112 = .ok (.iload_n 2, 1) := by decide +kernel
theorem dX10_goDay_113 : decode cX10_goDay 113 = .ok (.bipush 121, 2) := by decide +kernel
theorem dX10_goDay_115 : decode cX10_goDay 115 = .ok (.if_icmp .ge 15, 3) := by decide +kernel
theorem dX10_goDay_118 : decode cX10_goDay 118 = .ok (.aload_n 0, 1) := by decide +kernel
theorem dX10_goDay_119 : decode cX10_goDay 119 = .ok (.iload_n 1, 1) := by decide +kernel
theorem dX10_goDay_120 : decode cX10_goDay 120 = .ok (.iload_n 2, 1) := by decide +kernel
theorem dX10_goDay_121 : decode cX10_goDay 121 = .ok (.invokevirtual 205, 3) := by decide +kernel
theorem dX10_goDay_124 : decode cX10_goDay 124 = .ok (.iinc 2 1, 3) := by decide +kernel
theorem dX10_goDay_127 : decode cX10_goDay 127 = .ok (.goto (-15), 3) := by decide +kernel
theorem dX10_goDay_130 : decode cX10_goDay 130 = .ok (.iconst 0, 1) := by decide +kernel
theorem dX10_goDay_131 : decode cX10_goDay 131 = .ok (.istore_n 2, 1) := by decide +kernel
theorem dX10_goDay_132 : decode cX10_goDay 132 = .ok (.iconst 0, 1) := by decide +kernel
theorem dX10_goDay_133 : decode cX10_goDay 133 = .ok (.istore_n 3, 1) := by decide +kernel
theorem dX10_goDay_134 : decode cX10_goDay 134 = .ok (.iload_n 3, 1) := by decide +kernel
theorem dX10_goDay_135 : decode cX10_goDay 135 = .ok (.aload_n 0, 1) := by decide +kernel
theorem dX10_goDay_136 : decode cX10_goDay 136 = .ok (.getfield 13, 3) := by decide +kernel
theorem dX10_goDay_139 : decode cX10_goDay 139 = .ok (.iconst 0, 1) := by decide +kernel
theorem dX10_goDay_140 : decode cX10_goDay 140 = .ok (.iaload, 1) := by decide +kernel
theorem dX10_goDay_141 : decode cX10_goDay 141 = .ok (.if_icmp .ge 18, 3) := by decide +kernel
theorem dX10_goDay_144 : decode cX10_goDay 144 = .ok (.iload_n 2, 1) := by decide +kernel
theorem dX10_goDay_145 : decode cX10_goDay 145 = .ok (.aload_n 0, 1) := by decide +kernel
theorem dX10_goDay_146 : decode cX10_goDay 146 = .ok (.getfield 70, 3) := by decide +kernel
theorem dX10_goDay_149 : decode cX10_goDay 149 = .ok (.iload_n 3, 1) := by decide +kernel
theorem dX10_goDay_150 : decode cX10_goDay 150 = .ok (.iaload, 1) := by decide +kernel
theorem dX10_goDay_151 : decode cX10_goDay 151 = .ok (.iadd, 1) := by decide +kernel
theorem dX10_goDay_152 : decode cX10_goDay 152 = .ok (.istore_n 2, 1) := by decide +kernel
theorem dX10_goDay_153 : decode cX10_goDay 153 = .ok (.iinc 3 1, 3) := by decide +kernel
theorem dX10_goDay_156 : decode cX10_goDay 156 = .ok (.goto (-22), 3) := by decide +kernel
theorem dX10_goDay_159 : decode cX10_goDay 159 = .ok (.iload_n 2, 1) := by decide +kernel
theorem dX10_goDay_160 : decode cX10_goDay 160 = .ok (.ireturn, 1) := by decide +kernel
theorem dX10_where_0 : decode cX10_where 0 = .ok (.iload_n 1, 1) := by decide +kernel
theorem dX10_where_1 : decode cX10_where 1 = .ok (.invokestatic 209, 3) := by decide +kernel
theorem dX10_where_4 : decode cX10_where 4 = .ok (.ifCond .eq 23, 3) := by decide +kernel
theorem dX10_where_7 : decode cX10_where 7 = .ok (.aload_n 0, 1) := by decide +kernel
theorem dX10_where_8 : decode cX10_where 8 = .ok (.iload_n 2, 1) := by decide +kernel
theorem dX10_where_9 : decode cX10_where 9 = .ok (.invokevirtual 163, 3) := by decide +kernel
theorem dX10_where_12 : decode cX10_where 12 = .ok (.ifCond .eq 15, 3) := by decide +kernel
theorem dX10_where_15 : decode cX10_where 15 = .ok (.iload_n 3, 1) := by decide +kernel
theorem dX10_where_16 : decode cX10_where 16 = .ok (.i2l, 1) := by decide +kernel
theorem dX10_where_17 : decode cX10_where 17 = .ok (.lconst 0, 1) := by decide +kernel
theorem dX10_where_18 : decode cX10_where 18 = .ok (.ldc2_w 212, 3) := by decide +kernel
theorem dX10_where_21 : decode cX10_where 21 = .ok (.invokestatic 109, 3) := by decide +kernel
theorem dX10_where_24 : decode cX10_where 24 = .ok (.ifCond .ne 5, 3) := by decide +kernel
theorem dX10_where_27 : decode cX10_where 27 = .ok (.iconst (-1), 1) := by decide +kernel
theorem dX10_where_28 : decode cX10_where 28 = .ok (.ireturn, 1) := by decide +kernel
theorem dX10_where_29 : decode cX10_where 29 = .ok (.aload_n 0, 1) := by decide +kernel
theorem dX10_where_30 : decode cX10_where 30 = .ok (.iload_n 1, 1) := by decide +kernel
theorem dX10_where_31 : decode cX10_where 31 = .ok (.invokevirtual 214, 3) := by decide +kernel
theorem dX10_where_34 : decode cX10_where 34 = .ok (.pop, 1) := by decide +kernel
theorem dX10_where_35 : decode cX10_where 35 = .ok (.aload_n 0, 1) := by decide +kernel
theorem dX10_where_36 : decode cX10_where 36 = .ok (.getfield 61, 3) := by decide +kernel
theorem dX10_where_39 : decode cX10_where 39 = .ok (.bipush 6, 2) := by decide +kernel
theorem dX10_where_41 : decode cX10_where 41 = .ok (.iload_n 3, 1) := by decide +kernel
theorem dX10_where_42 : decode cX10_where 42 = .ok (.imul, 1) := by decide +kernel
theorem dX10_where_43 : decode cX10_where 43 = .ok (.iload_n 2, 1) := by decide +kernel
theorem dX10_where_44 : decode cX10_where 44 = .ok (.iadd, 1) := by decide +kernel
theorem dX10_where_45 : decode cX10_where 45 = .ok (.iaload, 1) := by decide +kernel
theorem dX10_where_46 : decode cX10_where 46 = .ok (.ireturn, 1) := by decide +kernel
theorem dX10_there_0 : decode cX10_there 0 = .ok (.iload_n 1, 1) := by decide +kernel
theorem dX10_there_1 : decode cX10_there 1 = .ok (.invokestatic 209, 3) := by decide +kernel
theorem dX10_there_4 : decode cX10_there 4 = .ok (.ifCond .eq 11, 3) := by decide +kernel
theorem dX10_there_7 : decode cX10_there 7 = .ok (.aload_n 0, 1) := by decide +kernel
theorem dX10_there_8 : decode cX10_there 8 = .ok (.iload_n 2, 1) := by decide +kernel
theorem dX10_there_9 : decode cX10_there 9 = .ok (.invokevirtual 163, 3) := by decide +kernel
theorem dX10_there_12 : decode cX10_there 12 = .ok (.ifCond .ne 5, 3) := by decide +kernel
theorem dX10_there_15 : decode cX10_there 15 = .ok (.iconst (-1), 1) := by decide +kernel
theorem dX10_there_16 : decode cX10_there 16 = .ok (.ireturn, 1) := by decide +kernel
theorem dX10_there_17 : decode cX10_there 17 = .ok (.aload_n 0, 1) := by decide +kernel
theorem dX10_there_18 : decode cX10_there 18 = .ok (.iload_n 1, 1) := by decide +kernel
theorem dX10_there_19 : decode cX10_there 19 = .ok (.invokevirtual 214, 3) := by decide +kernel
theorem dX10_there_22 : decode cX10_there 22 = .ok (.pop, 1) := by decide +kernel
theorem dX10_there_23 : decode cX10_there 23 = .ok (.aload_n 0, 1) := by decide +kernel
theorem dX10_there_24 : decode cX10_there 24 = .ok (.getfield 67, 3) := by decide +kernel
theorem dX10_there_27 : decode cX10_there 27 = .ok (.iload_n 2, 1) := by decide +kernel
theorem dX10_there_28 : decode cX10_there 28 = .ok (.iaload, 1) := by decide +kernel
theorem dX10_there_29 : decode cX10_there 29 = .ok (.ireturn, 1) := by decide +kernel
theorem dX10_stands_0 : decode cX10_stands 0 = .ok (.iload_n 1, 1) := by decide +kernel
theorem dX10_stands_1 : decode cX10_stands 1 = .ok (.invokestatic 209, 3) := by decide +kernel
theorem dX10_stands_4 : decode cX10_stands 4 = .ok (.ifCond .eq 16, 3) := by decide +kernel
theorem dX10_stands_7 : decode cX10_stands 7 = .ok (.iload_n 2, 1) := by decide +kernel
theorem dX10_stands_8 : decode cX10_stands 8 = .ok (.iconst (-1), 1) := by decide +kernel
theorem dX10_stands_9 : decode cX10_stands 9 = .ok (.if_icmp .eq 13, 3) := by decide +kernel
theorem dX10_stands_12 : decode cX10_stands 12 = .ok (.aload_n 0, 1) := by decide +kernel
theorem dX10_stands_13 : decode cX10_stands 13 = .ok (.iload_n 2, 1) := by decide +kernel
theorem dX10_stands_14 : decode cX10_stands 14 = .ok (.invokevirtual 163, 3) := by decide +kernel
theorem dX10_stands_17 : decode cX10_stands 17 = .ok (.ifCond .ne 5, 3) := by decide +kernel
theorem dX10_stands_20 : decode cX10_stands 20 = .ok (.iconst (-1), 1) := by decide +kernel
theorem dX10_stands_21 : decode cX10_stands 21 = .ok (.ireturn, 1) := by decide +kernel
theorem dX10_stands_22 : decode cX10_stands 22 = .ok (.aload_n 0, 1) := by decide +kernel
theorem dX10_stands_23 : decode cX10_stands 23 = .ok (.iload_n 1, 1) := by decide +kernel
theorem dX10_stands_24 : decode cX10_stands 24 = .ok (.invokevirtual 214, 3) := by decide +kernel
theorem dX10_stands_27 : decode cX10_stands 27 = .ok (.istore_n 3, 1) := by decide +kernel
theorem dX10_stands_28 : decode cX10_stands 28 = .ok (.iload_n 2, 1) := by decide +kernel
theorem dX10_stands_29 : decode cX10_stands 29 = .ok (.ifCond .ge 7, 3) := by decide +kernel
theorem dX10_stands_32 : decode cX10_stands 32 = .ok (.iload_n 3, 1) := by decide +kernel
theorem dX10_stands_33 : decode cX10_stands 33 = .ok (.goto 9, 3) := by decide +kernel
theorem dX10_stands_36 : decode cX10_stands 36 = .ok (.aload_n 0, 1) := by decide +kernel
theorem dX10_stands_37 : decode cX10_stands 37 = .ok (.getfield 70, 3) := by decide +kernel
theorem dX10_stands_40 : decode cX10_stands 40 = .ok (.iload_n 2, 1) := by decide +kernel
theorem dX10_stands_41 : decode cX10_stands 41 = .ok (.iaload, 1) := by decide +kernel
theorem dX10_stands_42 : decode cX10_stands 42 = .ok (.ireturn, 1) := by decide +kernel
theorem dX10_yields_0 : decode cX10_yields 0 = .ok (.iload_n 1, 1) := by decide +kernel
theorem dX10_yields_1 : decode cX10_yields 1 = .ok (.invokestatic 209, 3) := by decide +kernel
theorem dX10_yields_4 : decode cX10_yields 4 = .ok (.ifCond .eq 11, 3) := by decide +kernel
theorem dX10_yields_7 : decode cX10_yields 7 = .ok (.aload_n 0, 1) := by decide +kernel
theorem dX10_yields_8 : decode cX10_yields 8 = .ok (.iload_n 2, 1) := by decide +kernel
theorem dX10_yields_9 : decode cX10_yields 9 = .ok (.invokevirtual 163, 3) := by decide +kernel
theorem dX10_yields_12 : decode cX10_yields 12 = .ok (.ifCond .ne 5, 3) := by decide +kernel
theorem dX10_yields_15 : decode cX10_yields 15 = .ok (.iconst (-1), 1) := by decide +kernel
theorem dX10_yields_16 : decode cX10_yields 16 = .ok (.ireturn, 1) := by decide +kernel
theorem dX10_yields_17 : decode cX10_yields 17 = .ok (.aload_n 0, 1) := by decide +kernel
theorem dX10_yields_18 : decode cX10_yields 18 = .ok (.iload_n 1, 1) := by decide +kernel
theorem dX10_yields_19 : decode cX10_yields 19 = .ok (.invokevirtual 214, 3) := by decide +kernel
theorem dX10_yields_22 : decode cX10_yields 22 = .ok (.pop, 1) := by decide +kernel
theorem dX10_yields_23 : decode cX10_yields 23 = .ok (.aload_n 0, 1) := by decide +kernel
theorem dX10_yields_24 : decode cX10_yields 24 = .ok (.getfield 73, 3) := by decide +kernel
theorem dX10_yields_27 : decode cX10_yields 27 = .ok (.iload_n 2, 1) := by decide +kernel
theorem dX10_yields_28 : decode cX10_yields 28 = .ok (.iaload, 1) := by decide +kernel
theorem dX10_yields_29 : decode cX10_yields 29 = .ok (.ireturn, 1) := by decide +kernel
theorem dX10_meetings_0 : decode cX10_meetings 0 = .ok (.iload_n 1, 1) := by decide +kernel
theorem dX10_meetings_1 : decode cX10_meetings 1 = .ok (.invokestatic 209, 3) := by decide +kernel
theorem dX10_meetings_4 : decode cX10_meetings 4 = .ok (.ifCond .ne 5, 3) := by decide +kernel
theorem dX10_meetings_7 : decode cX10_meetings 7 = .ok (.iconst (-1), 1) := by decide +kernel
theorem dX10_meetings_8 : decode cX10_meetings 8 = .ok (.ireturn, 1) := by decide +kernel
theorem dX10_meetings_9 : decode cX10_meetings 9 = .ok (.aload_n 0, 1) := by decide +kernel
theorem dX10_meetings_10 : decode cX10_meetings 10 = .ok (.iload_n 1, 1) := by decide +kernel
theorem dX10_meetings_11 : decode cX10_meetings 11 = .ok (.invokevirtual 214, 3) := by decide +kernel
theorem dX10_meetings_14 : decode cX10_meetings 14 = .ok (.pop, 1) := by decide +kernel
theorem dX10_meetings_15 : decode cX10_meetings 15 = .ok (.aload_n 0, 1) := by decide +kernel
theorem dX10_meetings_16 : decode cX10_meetings 16 = .ok (.getfield 195, 3) := by decide +kernel
theorem dX10_meetings_19 : decode cX10_meetings 19 = .ok (.ireturn, 1) := by decide +kernel
theorem dX10_meeting_0 : decode cX10_meeting 0 = .ok (.iload_n 1, 1) := by decide +kernel
theorem dX10_meeting_1 : decode cX10_meeting 1 = .ok (.invokestatic 209, 3) := by decide +kernel
theorem dX10_meeting_4 : decode cX10_meeting 4 = .ok (.ifCond .eq 15, 3) := by decide +kernel
theorem dX10_meeting_7 : decode cX10_meeting 7 = .ok (.iload_n 3, 1) := by decide +kernel
theorem dX10_meeting_8 : decode cX10_meeting 8 = .ok (.i2l, 1) := by decide +kernel
theorem dX10_meeting_9 : decode cX10_meeting 9 = .ok (.lconst 0, 1) := by decide +kernel
theorem dX10_meeting_10 : decode cX10_meeting 10 = .ok (.ldc2_w 134, 3) := by decide +kernel
theorem dX10_meeting_13 : decode cX10_meeting 13 = .ok (.invokestatic 109, 3) := by decide +kernel
theorem dX10_meeting_16 : decode cX10_meeting 16 = .ok (.ifCond .ne 5, 3) := by decide +kernel
theorem dX10_meeting_19 : decode cX10_meeting 19 = .ok (.iconst (-1), 1) := by decide +kernel
theorem dX10_meeting_20 : decode cX10_meeting 20 = .ok (.ireturn, 1) := by decide +kernel
theorem dX10_meeting_21 : decode cX10_meeting 21 = .ok (.aload_n 0, 1) := by decide +kernel
theorem dX10_meeting_22 : decode cX10_meeting 22 = .ok (.iload_n 1, 1) := by decide +kernel
theorem dX10_meeting_23 : decode cX10_meeting 23 = .ok (.invokevirtual 214, 3) := by decide +kernel
theorem dX10_meeting_26 : decode cX10_meeting 26 = .ok (.pop, 1) := by decide +kernel
theorem dX10_meeting_27 : decode cX10_meeting 27 = .ok (.iload_n 2, 1) := by decide +kernel
theorem dX10_meeting_28 : decode cX10_meeting 28 = .ok (.i2l, 1) := by decide +kernel
theorem dX10_meeting_29 : decode cX10_meeting 29 = .ok (.lconst 0, 1) := by decide +kernel
theorem dX10_meeting_30 : decode cX10_meeting 30 = .ok (.aload_n 0, 1) := by decide +kernel
theorem dX10_meeting_31 : decode cX10_meeting 31 = .ok (.getfield 195, 3) := by decide +kernel
theorem dX10_meeting_34 : decode cX10_meeting 34 = .ok (.iconst 1, 1) := by decide +kernel
theorem dX10_meeting_35 : decode cX10_meeting 35 = .ok (.isub, 1) := by decide +kernel
theorem dX10_meeting_36 : decode cX10_meeting 36 = .ok (.i2l, 1) := by decide +kernel
theorem dX10_meeting_37 : decode cX10_meeting 37 = .ok (.invokestatic 109, 3) := by decide +kernel
theorem dX10_meeting_40 : decode cX10_meeting 40 = .ok (.ifCond .ne 5, 3) := by decide +kernel
theorem dX10_meeting_43 : decode cX10_meeting 43 = .ok (.iconst (-1), 1) := by decide +kernel
theorem dX10_meeting_44 : decode cX10_meeting 44 = .ok (.ireturn, 1) := by decide +kernel
theorem dX10_meeting_45 : decode cX10_meeting 45 = .ok (.iload_n 3, 1) := by decide +kernel
theorem dX10_meeting_46 : decode cX10_meeting 46 = .ok (.ifCond .ne 12, 3) := by decide +kernel
theorem dX10_meeting_49 : decode cX10_meeting 49 = .ok (.aload_n 0, 1) := by decide +kernel
theorem dX10_meeting_50 : decode cX10_meeting 50 = .ok (.getfield 79, 3) := by decide +kernel
theorem dX10_meeting_53 : decode cX10_meeting 53 = .ok (.iload_n 2, 1) := by decide +kernel
theorem dX10_meeting_54 : decode cX10_meeting 54 = .ok (.iaload, 1) := by decide +kernel
theorem dX10_meeting_55 : decode cX10_meeting 55 = .ok (.goto 37, 3) := by decide +kernel
theorem dX10_meeting_58 : decode cX10_meeting 58 = .ok (.iload_n 3, 1) := by decide +kernel
theorem dX10_meeting_59 : decode cX10_meeting 59 = .ok (.iconst 1, 1) := by decide +kernel
theorem dX10_meeting_60 : decode cX10_meeting 60 = .ok (.if_icmp .ne 12, 3) := by decide +kernel
theorem dX10_meeting_63 : decode cX10_meeting 63 = .ok (.aload_n 0, 1) := by decide +kernel
theorem dX10_meeting_64 : decode cX10_meeting 64 = .ok (.getfield 82, 3) := by decide +kernel
theorem dX10_meeting_67 : decode cX10_meeting 67 = .ok (.iload_n 2, 1) := by decide +kernel
theorem dX10_meeting_68 : decode cX10_meeting 68 = .ok (.iaload, 1) := by decide +kernel
theorem dX10_meeting_69 : decode cX10_meeting 69 = .ok (.goto 23, 3) := by decide +kernel
theorem dX10_meeting_72 : decode cX10_meeting 72 = .ok (.iload_n 3, 1) := by decide +kernel
theorem dX10_meeting_73 : decode cX10_meeting 73 = .ok (.iconst 2, 1) := by decide +kernel
theorem dX10_meeting_74 : decode cX10_meeting 74 = .ok (.if_icmp .ne 12, 3) := by decide +kernel
theorem dX10_meeting_77 : decode cX10_meeting 77 = .ok (.aload_n 0, 1) := by decide +kernel
theorem dX10_meeting_78 : decode cX10_meeting 78 = .ok (.getfield 85, 3) := by decide +kernel
theorem dX10_meeting_81 : decode cX10_meeting 81 = .ok (.iload_n 2, 1) := by decide +kernel
theorem dX10_meeting_82 : decode cX10_meeting 82 = .ok (.iaload, 1) := by decide +kernel
theorem dX10_meeting_83 : decode cX10_meeting 83 = .ok (.goto 9, 3) := by decide +kernel
theorem dX10_meeting_86 : decode cX10_meeting 86 = .ok (.aload_n 0, 1) := by decide +kernel
theorem dX10_meeting_87 : decode cX10_meeting 87 = .ok (.getfield 88, 3) := by decide +kernel
theorem dX10_meeting_90 : decode cX10_meeting 90 = .ok (.iload_n 2, 1) := by decide +kernel
theorem dX10_meeting_91 : decode cX10_meeting 91 = .ok (.iaload, 1) := by decide +kernel
theorem dX10_meeting_92 : decode cX10_meeting 92 = .ok (.ireturn, 1) := by decide +kernel
theorem dX10_note_0 : decode cX10_note 0 = .ok (.aload_n 0, 1) := by decide +kernel
theorem dX10_note_1 : decode cX10_note 1 = .ok (.getfield 154, 3) := by decide +kernel
theorem dX10_note_4 : decode cX10_note 4 = .ok (.bipush 8, 2) := by decide +kernel
theorem dX10_note_6 : decode cX10_note 6 = .ok (.if_icmp .ne 42, 3) := by decide +kernel
theorem dX10_note_9 : decode cX10_note 9 = .ok (.iconst 0, 1) := by decide +kernel
theorem dX10_note_10 : decode cX10_note 10 = .ok (.istore_n 1, 1) := by decide +kernel
theorem dX10_note_11 : decode cX10_note 11 = .ok (.iload_n 1, 1) := by decide +kernel
theorem dX10_note_12 : decode cX10_note 12 = .ok (.bipush 84, 2) := by decide +kernel
theorem dX10_note_14 : decode cX10_note 14 = .ok (.if_icmp .ge 24, 3) := by decide +kernel
theorem dX10_note_17 : decode cX10_note 17 = .ok (.aload_n 0, 1) := by decide +kernel
theorem dX10_note_18 : decode cX10_note 18 = .ok (.getfield 46, 3) := by decide +kernel
theorem dX10_note_21 : decode cX10_note 21 = .ok (.iload_n 1, 1) := by decide +kernel
theorem dX10_note_22 : decode cX10_note 22 = .ok (.aload_n 0, 1) := by decide +kernel
theorem dX10_note_23 : decode cX10_note 23 = .ok (.getfield 46, 3) := by decide +kernel
theorem dX10_note_26 : decode cX10_note 26 = .ok (.bipush 12, 2) := by decide +kernel
theorem dX10_note_28 : decode cX10_note 28 = .ok (.iload_n 1, 1) := by decide +kernel
theorem dX10_note_29 : decode cX10_note 29 = .ok (.iadd, 1) := by decide +kernel
theorem dX10_note_30 : decode cX10_note 30 = .ok (.iaload, 1) := by decide +kernel
theorem dX10_note_31 : decode cX10_note 31 = .ok (.iastore, 1) := by decide +kernel
theorem dX10_note_32 : decode cX10_note 32 = .ok (.iinc 1 1, 3) := by decide +kernel
theorem dX10_note_35 : decode cX10_note 35 = .ok (.goto (-24), 3) := by decide +kernel
theorem dX10_note_38 : decode cX10_note 38 = .ok (.aload_n 0, 1) := by decide +kernel
theorem dX10_note_39 : decode cX10_note 39 = .ok (.dup, 1) := by decide +kernel
theorem dX10_note_40 : decode cX10_note 40 = .ok (.getfield 154, 3) := by decide +kernel
theorem dX10_note_43 : decode cX10_note 43 = .ok (.iconst 1, 1) := by decide +kernel
theorem dX10_note_44 : decode cX10_note 44 = .ok (.isub, 1) := by decide +kernel
theorem dX10_note_45 : decode cX10_note 45 = .ok (.putfield 154, 3) := by decide +kernel
theorem dX10_note_48 : decode cX10_note 48 = .ok (.iconst 0, 1) := by decide +kernel
theorem dX10_note_49 : decode cX10_note 49 = .ok (.istore_n 1, 1) := by decide +kernel
theorem dX10_note_50 : decode cX10_note 50 = .ok (.iload_n 1, 1) := by decide +kernel
theorem dX10_note_51 : decode cX10_note 51 = .ok (.bipush 12, 2) := by decide +kernel
theorem dX10_note_53 : decode cX10_note 53 = .ok (.if_icmp .ge 29, 3) := by decide +kernel
theorem dX10_note_56 : decode cX10_note 56 = .ok (.aload_n 0, 1) := by decide +kernel
theorem dX10_note_57 : decode cX10_note 57 = .ok (.getfield 46, 3) := by decide +kernel
theorem dX10_note_60 : decode cX10_note 60 = .ok (.bipush 12, 2) := by decide +kernel
theorem dX10_note_62 : decode cX10_note 62 = .ok (.aload_n 0, 1) := by decide +kernel
theorem dX10_note_63 : decode cX10_note 63 = .ok (.getfield 154, 3) := by decide +kernel
theorem dX10_note_66 : decode cX10_note 66 = .ok (.imul, 1) := by decide +kernel
theorem dX10_note_67 : decode cX10_note 67 = .ok (.iload_n 1, 1) := by decide +kernel
theorem dX10_note_68 : decode cX10_note 68 = .ok (.iadd, 1) := by decide +kernel
theorem dX10_note_69 : decode cX10_note 69 = .ok (.aload_n 0, 1) := by decide +kernel
theorem dX10_note_70 : decode cX10_note 70 = .ok (.getfield 43, 3) := by decide +kernel
theorem dX10_note_73 : decode cX10_note 73 = .ok (.iload_n 1, 1) := by decide +kernel
theorem dX10_note_74 : decode cX10_note 74 = .ok (.iaload, 1) := by decide +kernel
theorem dX10_note_75 : decode cX10_note 75 = .ok (.iastore, 1) := by decide +kernel
theorem dX10_note_76 : decode cX10_note 76 = .ok (.iinc 1 1, 3) := by decide +kernel
theorem dX10_note_79 : decode cX10_note 79 = .ok (.goto (-29), 3) := by decide +kernel
theorem dX10_note_82 : decode cX10_note 82 = .ok (.aload_n 0, 1) := by decide +kernel
theorem dX10_note_83 : decode cX10_note 83 = .ok (.dup, 1) := by decide +kernel
theorem dX10_note_84 : decode cX10_note 84 = .ok (.getfield 154, 3) := by decide +kernel
theorem dX10_note_87 : decode cX10_note 87 = .ok (.iconst 1, 1) := by decide +kernel
theorem dX10_note_88 : decode cX10_note 88 = .ok (.iadd, 1) := by decide +kernel
theorem dX10_note_89 : decode cX10_note 89 = .ok (.putfield 154, 3) := by decide +kernel
theorem dX10_note_92 : decode cX10_note 92 = .ok (.return_, 1) := by decide +kernel
theorem dX10_load_0 : decode cX10_load 0 = .ok (.aload_n 0, 1) := by decide +kernel
theorem dX10_load_1 : decode cX10_load 1 = .ok (.iload_n 1, 1) := by decide +kernel
theorem dX10_load_2 : decode cX10_load 2 = .ok (.invokevirtual 163, 3) := by decide +kernel
theorem dX10_load_5 : decode cX10_load 5 = .ok (.ifCond .eq 15, 3) := by decide +kernel
theorem dX10_load_8 : decode cX10_load 8 = .ok (.iload_n 2, 1) := by decide +kernel
theorem dX10_load_9 : decode cX10_load 9 = .ok (.i2l, 1) := by decide +kernel
theorem dX10_load_10 : decode cX10_load 10 = .ok (.lconst 0, 1) := by decide +kernel
theorem dX10_load_11 : decode cX10_load 11 = .ok (.ldc2_w 217, 3) := by decide +kernel
theorem dX10_load_14 : decode cX10_load 14 = .ok (.invokestatic 109, 3) := by decide +kernel
theorem dX10_load_17 : decode cX10_load 17 = .ok (.ifCond .ne 5, 3) := by decide +kernel
theorem dX10_load_20 : decode cX10_load 20 = .ok (.iconst (-1), 1) := by decide +kernel
theorem dX10_load_21 : decode cX10_load 21 = .ok (.ireturn, 1) := by decide +kernel
theorem dX10_load_22 : decode cX10_load 22 = .ok (.aload_n 0, 1) := by decide +kernel
theorem dX10_load_23 : decode cX10_load 23 = .ok (.invokevirtual 219, 3) := by decide +kernel
theorem dX10_load_26 : decode cX10_load 26 = .ok (.aload_n 0, 1) := by decide +kernel
theorem dX10_load_27 : decode cX10_load 27 = .ok (.getfield 43, 3) := by decide +kernel
theorem dX10_load_30 : decode cX10_load 30 = .ok (.iload_n 1, 1) := by decide +kernel
theorem dX10_load_31 : decode cX10_load 31 = .ok (.iaload, 1) := by decide +kernel
theorem dX10_load_32 : decode cX10_load 32 = .ok (.istore_n 3, 1) := by decide +kernel
theorem dX10_load_33 : decode cX10_load 33 = .ok (.aload_n 0, 1) := by decide +kernel
theorem dX10_load_34 : decode cX10_load 34 = .ok (.getfield 43, 3) := by decide +kernel
theorem dX10_load_37 : decode cX10_load 37 = .ok (.iload_n 1, 1) := by decide +kernel
theorem dX10_load_38 : decode cX10_load 38 = .ok (.iload_n 2, 1) := by decide +kernel
theorem dX10_load_39 : decode cX10_load 39 = .ok (.iastore, 1) := by decide +kernel
theorem dX10_load_40 : decode cX10_load 40 = .ok (.iload_n 3, 1) := by decide +kernel
theorem dX10_load_41 : decode cX10_load 41 = .ok (.ireturn, 1) := by decide +kernel
theorem dX10_later_0 : decode cX10_later 0 = .ok (.aload_n 0, 1) := by decide +kernel
theorem dX10_later_1 : decode cX10_later 1 = .ok (.iload_n 1, 1) := by decide +kernel
theorem dX10_later_2 : decode cX10_later 2 = .ok (.invokevirtual 163, 3) := by decide +kernel
theorem dX10_later_5 : decode cX10_later 5 = .ok (.ifCond .eq 15, 3) := by decide +kernel
theorem dX10_later_8 : decode cX10_later 8 = .ok (.iload_n 2, 1) := by decide +kernel
theorem dX10_later_9 : decode cX10_later 9 = .ok (.i2l, 1) := by decide +kernel
theorem dX10_later_10 : decode cX10_later 10 = .ok (.lconst 0, 1) := by decide +kernel
theorem dX10_later_11 : decode cX10_later 11 = .ok (.ldc2_w 222, 3) := by decide +kernel
theorem dX10_later_14 : decode cX10_later 14 = .ok (.invokestatic 109, 3) := by decide +kernel
theorem dX10_later_17 : decode cX10_later 17 = .ok (.ifCond .ne 5, 3) := by decide +kernel
theorem dX10_later_20 : decode cX10_later 20 = .ok (.iconst (-1), 1) := by decide +kernel
theorem dX10_later_21 : decode cX10_later 21 = .ok (.ireturn, 1) := by decide +kernel
theorem dX10_later_22 : decode cX10_later 22 = .ok (.aload_n 0, 1) := by decide +kernel
theorem dX10_later_23 : decode cX10_later 23 = .ok (.invokevirtual 219, 3) := by decide +kernel
theorem dX10_later_26 : decode cX10_later 26 = .ok (.aload_n 0, 1) := by decide +kernel
theorem dX10_later_27 : decode cX10_later 27 = .ok (.getfield 43, 3) := by decide +kernel
theorem dX10_later_30 : decode cX10_later 30 = .ok (.bipush 6, 2) := by decide +kernel
theorem dX10_later_32 : decode cX10_later 32 = .ok (.iload_n 1, 1) := by decide +kernel
theorem dX10_later_33 : decode cX10_later 33 = .ok (.iadd, 1) := by decide +kernel
theorem dX10_later_34 : decode cX10_later 34 = .ok (.iaload, 1) := by decide +kernel
theorem dX10_later_35 : decode cX10_later 35 = .ok (.istore_n 3, 1) := by decide +kernel
theorem dX10_later_36 : decode cX10_later 36 = .ok (.aload_n 0, 1) := by decide +kernel
theorem dX10_later_37 : decode cX10_later 37 = .ok (.getfield 43, 3) := by decide +kernel
theorem dX10_later_40 : decode cX10_later 40 = .ok (.bipush 6, 2) := by decide +kernel
theorem dX10_later_42 : decode cX10_later 42 = .ok (.iload_n 1, 1) := by decide +kernel
theorem dX10_later_43 : decode cX10_later 43 = .ok (.iadd, 1) := by decide +kernel
theorem dX10_later_44 : decode cX10_later 44 = .ok (.iload_n 2, 1) := by decide +kernel
theorem dX10_later_45 : decode cX10_later 45 = .ok (.iastore, 1) := by decide +kernel
theorem dX10_later_46 : decode cX10_later 46 = .ok (.iload_n 3, 1) := by decide +kernel
theorem dX10_later_47 : decode cX10_later 47 = .ok (.ireturn, 1) := by decide +kernel
theorem dX10_undo_0 : decode cX10_undo 0 = .ok (.aload_n 0, 1) := by decide +kernel
theorem dX10_undo_1 : decode cX10_undo 1 = .ok (.getfield 154, 3) := by decide +kernel
theorem dX10_undo_4 : decode cX10_undo 4 = .ok (.ifCond .ne 6, 3) := by decide +kernel
theorem dX10_undo_7 : decode cX10_undo 7 = .ok (.bipush (-2), 2) := by decide +kernel
theorem dX10_undo_9 : decode cX10_undo 9 = .ok (.ireturn, 1) := by decide +kernel
theorem dX10_undo_10 : decode cX10_undo 10 = .ok (.aload_n 0, 1) := by decide +kernel
theorem dX10_undo_11 : decode cX10_undo 11 = .ok (.dup, 1) := by decide +kernel
theorem dX10_undo_12 : decode cX10_undo 12 = .ok (.getfield 154, 3) := by decide +kernel
theorem dX10_undo_15 : decode cX10_undo 15 = .ok (.iconst 1, 1) := by decide +kernel
theorem dX10_undo_16 : decode cX10_undo 16 = .ok (.isub, 1) := by decide +kernel
theorem dX10_undo_17 : decode cX10_undo 17 = .ok (.putfield 154, 3) := by decide +kernel
theorem dX10_undo_20 : decode cX10_undo 20 = .ok (.iconst 0, 1) := by decide +kernel
theorem dX10_undo_21 : decode cX10_undo 21 = .ok (.istore_n 1, 1) := by decide +kernel
theorem dX10_undo_22 : decode cX10_undo 22 = .ok (.iload_n 1, 1) := by decide +kernel
theorem dX10_undo_23 : decode cX10_undo 23 = .ok (.bipush 12, 2) := by decide +kernel
theorem dX10_undo_25 : decode cX10_undo 25 = .ok (.if_icmp .ge 29, 3) := by decide +kernel
theorem dX10_undo_28 : decode cX10_undo 28 = .ok (.aload_n 0, 1) := by decide +kernel
theorem dX10_undo_29 : decode cX10_undo 29 = .ok (.getfield 43, 3) := by decide +kernel
theorem dX10_undo_32 : decode cX10_undo 32 = .ok (.iload_n 1, 1) := by decide +kernel
theorem dX10_undo_33 : decode cX10_undo 33 = .ok (.aload_n 0, 1) := by decide +kernel
theorem dX10_undo_34 : decode cX10_undo 34 = .ok (.getfield 46, 3) := by decide +kernel
theorem dX10_undo_37 : decode cX10_undo 37 = .ok (.bipush 12, 2) := by decide +kernel
theorem dX10_undo_39 : decode cX10_undo 39 = .ok (.aload_n 0, 1) := by decide +kernel
theorem dX10_undo_40 : decode cX10_undo 40 = .ok (.getfield 154, 3) := by decide +kernel
theorem dX10_undo_43 : decode cX10_undo 43 = .ok (.imul, 1) := by decide +kernel
theorem dX10_undo_44 : decode cX10_undo 44 = .ok (.iload_n 1, 1) := by decide +kernel
theorem dX10_undo_45 : decode cX10_undo 45 = .ok (.iadd, 1) := by decide +kernel
theorem dX10_undo_46 : decode cX10_undo 46 = .ok (.iaload, 1) := by decide +kernel
theorem dX10_undo_47 : decode cX10_undo 47 = .ok (.iastore, 1) := by decide +kernel
theorem dX10_undo_48 : decode cX10_undo 48 = .ok (.iinc 1 1, 3) := by decide +kernel
theorem dX10_undo_51 : decode cX10_undo 51 = .ok (.goto (-29), 3) := by decide +kernel
theorem dX10_undo_54 : decode cX10_undo 54 = .ok (.aload_n 0, 1) := by decide +kernel
theorem dX10_undo_55 : decode cX10_undo 55 = .ok (.getfield 154, 3) := by decide +kernel
theorem dX10_undo_58 : decode cX10_undo 58 = .ok (.ireturn, 1) := by decide +kernel
theorem dX10_who_0 : decode cX10_who 0 = .ok (.iload_n 1, 1) := by decide +kernel
theorem dX10_who_1 : decode cX10_who 1 = .ok (.invokestatic 209, 3) := by decide +kernel
theorem dX10_who_4 : decode cX10_who 4 = .ok (.ifCond .eq 12, 3) := by decide +kernel
theorem dX10_who_7 : decode cX10_who 7 = .ok (.aload_n 0, 1) := by decide +kernel
theorem dX10_who_8 : decode cX10_who 8 = .ok (.iload_n 2, 1) := by decide +kernel
theorem dX10_who_9 : decode cX10_who 9 = .ok (.iload_n 3, 1) := by decide +kernel
theorem dX10_who_10 : decode cX10_who 10 = .ok (.invokevirtual 224, 3) := by decide +kernel
theorem dX10_who_13 : decode cX10_who 13 = .ok (.ifCond .ne 5, 3) := by decide +kernel
theorem dX10_who_16 : decode cX10_who 16 = .ok (.iconst (-1), 1) := by decide +kernel
theorem dX10_who_17 : decode cX10_who 17 = .ok (.ireturn, 1) := by decide +kernel
theorem dX10_who_18 : decode cX10_who 18 = .ok (.aload_n 0, 1) := by decide +kernel
theorem dX10_who_19 : decode cX10_who 19 = .ok (.getfield 19, 3) := by decide +kernel
theorem dX10_who_22 : decode cX10_who 22 = .ok (.iload_n 2, 1) := by decide +kernel
theorem dX10_who_23 : decode cX10_who 23 = .ok (.iaload, 1) := by decide +kernel
theorem dX10_who_24 : decode cX10_who 24 = .ok (.aload_n 0, 1) := by decide +kernel
theorem dX10_who_25 : decode cX10_who 25 = .ok (.getfield 19, 3) := by decide +kernel
theorem dX10_who_28 : decode cX10_who 28 = .ok (.iload_n 3, 1) := by decide +kernel
theorem dX10_who_29 : decode cX10_who 29 = .ok (.iaload, 1) := by decide +kernel
theorem dX10_who_30 : decode cX10_who 30 = .ok (.if_icmp .ne 8, 3) := by decide +kernel
theorem dX10_who_33 : decode cX10_who 33 = .ok (.bipush (-2), 2) := by decide +kernel
theorem dX10_who_35 : decode cX10_who 35 = .ok (.goto 10, 3) := by decide +kernel
theorem dX10_who_38 : decode cX10_who 38 = .ok (.aload_n 0, 1) := by decide +kernel
theorem dX10_who_39 : decode cX10_who 39 = .ok (.iload_n 1, 1) := by decide +kernel
theorem dX10_who_40 : decode cX10_who 40 = .ok (.iload_n 2, 1) := by decide +kernel
theorem dX10_who_41 : decode cX10_who 41 = .ok (.iload_n 3, 1) := by decide +kernel
theorem dX10_who_42 : decode cX10_who 42 = .ok (.invokevirtual 185, 3) := by decide +kernel
theorem dX10_who_45 : decode cX10_who 45 = .ok (.ireturn, 1) := by decide +kernel
theorem dX10_best_0 : decode cX10_best 0 = .ok (.iload_n 1, 1) := by decide +kernel
theorem dX10_best_1 : decode cX10_best 1 = .ok (.i2l, 1) := by decide +kernel
theorem dX10_best_2 : decode cX10_best 2 = .ok (.lconst 0, 1) := by decide +kernel
theorem dX10_best_3 : decode cX10_best 3 = .ok (.lconst 1, 1) := by decide +kernel
theorem dX10_best_4 : decode cX10_best 4 = .ok (.invokestatic 109, 3) := by decide +kernel
theorem dX10_best_7 : decode cX10_best 7 = .ok (.ifCond .ne 5, 3) := by decide +kernel
theorem dX10_best_10 : decode cX10_best 10 = .ok (.iconst (-1), 1) := by decide +kernel
theorem dX10_best_11 : decode cX10_best 11 = .ok (.ireturn, 1) := by decide +kernel
theorem dX10_best_12 : decode cX10_best 12 = .ok (.iconst 0, 1) := by decide +kernel
theorem dX10_best_13 : decode cX10_best 13 = .ok (.istore_n 2, 1) := by decide +kernel
theorem dX10_best_14 : decode cX10_best 14 = .ok (.aload_n 0, 1) := by decide +kernel
theorem dX10_best_15 : decode cX10_best 15 = .ok (.iconst 0, 1) := by decide +kernel
theorem dX10_best_16 : decode cX10_best 16 = .ok (.invokevirtual 214, 3) := by decide +kernel
theorem dX10_best_19 : decode cX10_best 19 = .ok (.istore_n 3, 1) := by decide +kernel
theorem dX10_best_20 : decode cX10_best 20 = .ok (.iconst 1, 1) := by decide +kernel
theorem dX10_best_21 : decode cX10_best 21 = .ok (.istore 4, 2) := by decide +kernel
theorem dX10_best_23 : decode cX10_best 23 = .ok (.iload 4, 2) := by decide +kernel
theorem dX10_best_25 : decode cX10_best 25 = .ok (.iconst 4, 1) := by decide +kernel
theorem dX10_best_26 : decode cX10_best 26 = .ok (.if_icmp .ge 43, 3) := by decide +kernel
theorem dX10_best_29 : decode cX10_best 29 = .ok (.aload_n 0, 1) := by decide +kernel
theorem dX10_best_30 : decode cX10_best 30 = .ok (.iload 4, 2) := by decide +kernel
theorem dX10_best_32 : decode cX10_best 32 = .ok (.invokevirtual 214, 3) := by decide +kernel
theorem dX10_best_35 : decode cX10_best 35 = .ok (.istore 5, 2) := by decide +kernel
theorem dX10_best_37 : decode cX10_best 37 = .ok (.iload 5, 2) := by decide +kernel
theorem dX10_best_39 : decode cX10_best 39 = .ok (.iload_n 3, 1) := by decide +kernel
theorem dX10_best_40 : decode cX10_best 40 = .ok (.if_icmp .ge 8, 3) := by decide +kernel
theorem dX10_best_43 : decode cX10_best 43 = .ok (.iload 4, 2) := by decide +kernel
theorem dX10_best_45 : decode cX10_best 45 = .ok (.goto 4, 3) := by decide +kernel
theorem dX10_best_48 : decode cX10_best 48 = .ok (.iload_n 2, 1) := by decide +kernel
theorem dX10_best_49 : decode cX10_best 49 = .ok (.istore_n 2, 1) := by decide +kernel
theorem dX10_best_50 : decode cX10_best 50 = .ok (.iload 5, 2) := by decide +kernel
theorem dX10_best_52 : decode cX10_best 52 = .ok (.iload_n 3, 1) := by decide +kernel
theorem dX10_best_53 : decode cX10_best 53 = .ok (.if_icmp .ge 8, 3) := by decide +kernel
theorem dX10_best_56 : decode cX10_best 56 = .ok (.iload 5, 2) := by decide +kernel
theorem dX10_best_58 : decode cX10_best 58 = .ok (.goto 4, 3) := by decide +kernel
theorem dX10_best_61 : decode cX10_best 61 = .ok (.iload_n 3, 1) := by decide +kernel
theorem dX10_best_62 : decode cX10_best 62 = .ok (.istore_n 3, 1) := by decide +kernel
theorem dX10_best_63 : decode cX10_best 63 = .ok (.iinc 4 1, 3) := by decide +kernel
theorem dX10_best_66 : decode cX10_best 66 = .ok (.goto (-43), 3) := by decide +kernel
theorem dX10_best_69 : decode cX10_best 69 = .ok (.iload_n 1, 1) := by decide +kernel
theorem dX10_best_70 : decode cX10_best 70 = .ok (.ifCond .ne 7, 3) := by decide +kernel
theorem dX10_best_73 : decode cX10_best 73 = .ok (.iload_n 2, 1) := by decide +kernel
theorem dX10_best_74 : decode cX10_best 74 = .ok (.goto 4, 3) := by decide +kernel
theorem dX10_best_77 : decode cX10_best 77 = .ok (.iload_n 3, 1) := by decide +kernel
theorem dX10_best_78 : decode cX10_best 78 = .ok (.ireturn, 1) := by decide +kernel
theorem dX10_custom_0 : decode cX10_custom 0 = .ok (.aload_n 0, 1) := by decide +kernel
theorem dX10_custom_1 : decode cX10_custom 1 = .ok (.iconst 0, 1) := by decide +kernel
theorem dX10_custom_2 : decode cX10_custom 2 = .ok (.invokevirtual 214, 3) := by decide +kernel
theorem dX10_custom_5 : decode cX10_custom 5 = .ok (.aload_n 0, 1) := by decide +kernel
theorem dX10_custom_6 : decode cX10_custom 6 = .ok (.iconst 1, 1) := by decide +kernel
theorem dX10_custom_7 : decode cX10_custom 7 = .ok (.invokevirtual 228, 3) := by decide +kernel
theorem dX10_custom_10 : decode cX10_custom 10 = .ok (.isub, 1) := by decide +kernel
theorem dX10_custom_11 : decode cX10_custom 11 = .ok (.ireturn, 1) := by decide +kernel
theorem dX10_send_0 : decode cX10_send 0 = .ok (.iload_n 1, 1) := by decide +kernel
theorem dX10_send_1 : decode cX10_send 1 = .ok (.invokestatic 209, 3) := by decide +kernel
theorem dX10_send_4 : decode cX10_send 4 = .ok (.ifCond .eq 21, 3) := by decide +kernel
theorem dX10_send_7 : decode cX10_send 7 = .ok (.aload_n 0, 1) := by decide +kernel
theorem dX10_send_8 : decode cX10_send 8 = .ok (.iload_n 2, 1) := by decide +kernel
theorem dX10_send_9 : decode cX10_send 9 = .ok (.invokevirtual 163, 3) := by decide +kernel
theorem dX10_send_12 : decode cX10_send 12 = .ok (.ifCond .eq 13, 3) := by decide +kernel
theorem dX10_send_15 : decode cX10_send 15 = .ok (.iload_n 3, 1) := by decide +kernel
theorem dX10_send_16 : decode cX10_send 16 = .ok (.i2l, 1) := by decide +kernel
theorem dX10_send_17 : decode cX10_send 17 = .ok (.lconst 0, 1) := by decide +kernel
theorem dX10_send_18 : decode cX10_send 18 = .ok (.lconst 1, 1) := by decide +kernel
theorem dX10_send_19 : decode cX10_send 19 = .ok (.invokestatic 109, 3) := by decide +kernel
theorem dX10_send_22 : decode cX10_send 22 = .ok (.ifCond .ne 5, 3) := by decide +kernel
theorem dX10_send_25 : decode cX10_send 25 = .ok (.iconst (-1), 1) := by decide +kernel
theorem dX10_send_26 : decode cX10_send 26 = .ok (.ireturn, 1) := by decide +kernel
theorem dX10_send_27 : decode cX10_send 27 = .ok (.aload_n 0, 1) := by decide +kernel
theorem dX10_send_28 : decode cX10_send 28 = .ok (.getfield 43, 3) := by decide +kernel
theorem dX10_send_31 : decode cX10_send 31 = .ok (.bipush 6, 2) := by decide +kernel
theorem dX10_send_33 : decode cX10_send 33 = .ok (.iload_n 2, 1) := by decide +kernel
theorem dX10_send_34 : decode cX10_send 34 = .ok (.iadd, 1) := by decide +kernel
theorem dX10_send_35 : decode cX10_send 35 = .ok (.iaload, 1) := by decide +kernel
theorem dX10_send_36 : decode cX10_send 36 = .ok (.istore 4, 2) := by decide +kernel
theorem dX10_send_38 : decode cX10_send 38 = .ok (.bipush (-4), 2) := by decide +kernel
theorem dX10_send_40 : decode cX10_send 40 = .ok (.istore 5, 2) := by decide +kernel
theorem dX10_send_42 : decode cX10_send 42 = .ok (.iconst 0, 1) := by decide +kernel
theorem dX10_send_43 : decode cX10_send 43 = .ok (.istore 6, 2) := by decide +kernel
theorem dX10_send_45 : decode cX10_send 45 = .ok (.iconst 0, 1) := by decide +kernel
theorem dX10_send_46 : decode cX10_send 46 = .ok (.istore 7, 2) := by decide +kernel
theorem dX10_send_48 : decode cX10_send 48 = .ok (.iload 7, 2) := by decide +kernel
theorem dX10_send_50 : decode cX10_send 50 = .ok (.bipush 30, 2) := by decide +kernel
theorem dX10_send_52 : decode cX10_send 52 = .ok (.if_icmp .gt 47, 3) := by decide +kernel
theorem dX10_send_55 : decode cX10_send 55 = .ok (.aload_n 0, 1) := by decide +kernel
theorem dX10_send_56 : decode cX10_send 56 = .ok (.getfield 43, 3) := by decide +kernel
theorem dX10_send_59 : decode cX10_send 59 = .ok (.bipush 6, 2) := by decide +kernel
theorem dX10_send_61 : decode cX10_send 61 = .ok (.iload_n 2, 1) := by decide +kernel
theorem dX10_send_62 : decode cX10_send 62 = .ok (.iadd, 1) := by decide +kernel
theorem dX10_send_63 : decode cX10_send 63 = .ok (.iload 7, 2) := by decide +kernel
theorem dX10_send_65 : decode cX10_send 65 = .ok (.iastore, 1) := by decide +kernel
theorem dX10_send_66 : decode cX10_send 66 = .ok (.aload_n 0, 1) := by decide +kernel
theorem dX10_send_67 : decode cX10_send 67 = .ok (.iload_n 1, 1) := by decide +kernel
theorem dX10_send_68 : decode cX10_send 68 = .ok (.invokevirtual 214, 3) := by decide +kernel
theorem dX10_send_71 : decode cX10_send 71 = .ok (.istore 8, 2) := by decide +kernel
theorem dX10_send_73 : decode cX10_send 73 = .ok (.iload 5, 2) := by decide +kernel
theorem dX10_send_75 : decode cX10_send 75 = .ok (.ifCond .lt 10, 3) := by decide +kernel
theorem dX10_send_78 : decode cX10_send 78 = .ok (.iload 8, 2) := by decide +kernel
theorem dX10_send_80 : decode cX10_send 80 = .ok (.iload 6, 2) := by decide +kernel
theorem dX10_send_82 : decode cX10_send 82 = .ok (.if_icmp .ge 11, 3) := by decide +kernel
theorem dX10_send_85 : decode cX10_send 85 = .ok (.iload 7, 2) := by decide +kernel
theorem dX10_send_87 : decode cX10_send 87 = .ok (.istore 5, 2) := by decide +kernel
theorem dX10_send_89 : decode cX10_send 89 = .ok (.iload 8, 2) := by decide +kernel
theorem dX10_send_91 : decode cX10_send 91 = .ok (.istore 6, 2) := by decide +kernel
theorem dX10_send_93 : decode cX10_send 93 = .ok (.iinc 7 1, 3) := by decide +kernel
theorem dX10_send_96 : decode cX10_send 96 = .ok (.goto (-48), 3) := by decide +kernel
theorem dX10_send_99 : decode cX10_send 99 = .ok (.aload_n 0, 1) := by decide +kernel
theorem dX10_send_100 : decode cX10_send 100 = .ok (.getfield 43, 3) := by decide +kernel
theorem dX10_send_103 : decode cX10_send 103 = .ok (.bipush 6, 2) := by decide +kernel
theorem dX10_send_105 : decode cX10_send 105 = .ok (.iload_n 2, 1) := by decide +kernel
theorem dX10_send_106 : decode cX10_send 106 = .ok (.iadd, 1) := by decide +kernel
theorem dX10_send_107 : decode cX10_send 107 = .ok (.iload 4, 2) := by decide +kernel
theorem dX10_send_109 : decode cX10_send 109 = .ok (.iastore, 1) := by decide +kernel
theorem dX10_send_110 : decode cX10_send 110 = .ok (.iload_n 3, 1) := by decide +kernel
theorem dX10_send_111 : decode cX10_send 111 = .ok (.ifCond .ne 8, 3) := by decide +kernel
theorem dX10_send_114 : decode cX10_send 114 = .ok (.iload 5, 2) := by decide +kernel
theorem dX10_send_116 : decode cX10_send 116 = .ok (.goto 5, 3) := by decide +kernel
theorem dX10_send_119 : decode cX10_send 119 = .ok (.iload 6, 2) := by decide +kernel
theorem dX10_send_121 : decode cX10_send 121 = .ok (.ireturn, 1) := by decide +kernel
theorem dX10_change_0 : decode cX10_change 0 = .ok (.aload_n 0, 1) := by decide +kernel
theorem dX10_change_1 : decode cX10_change 1 = .ok (.getfield 43, 3) := by decide +kernel
theorem dX10_change_4 : decode cX10_change 4 = .ok (.iload_n 1, 1) := by decide +kernel
theorem dX10_change_5 : decode cX10_change 5 = .ok (.iaload, 1) := by decide +kernel
theorem dX10_change_6 : decode cX10_change 6 = .ok (.istore_n 3, 1) := by decide +kernel
theorem dX10_change_7 : decode cX10_change 7 = .ok (.aload_n 0, 1) := by decide +kernel
theorem dX10_change_8 : decode cX10_change 8 = .ok (.getfield 43, 3) := by decide +kernel
theorem dX10_change_11 : decode cX10_change 11 = .ok (.iload_n 1, 1) := by decide +kernel
theorem dX10_change_12 : decode cX10_change 12 = .ok (.aload_n 0, 1) := by decide +kernel
theorem dX10_change_13 : decode cX10_change 13 = .ok (.getfield 43, 3) := by decide +kernel
theorem dX10_change_16 : decode cX10_change 16 = .ok (.iload_n 2, 1) := by decide +kernel
theorem dX10_change_17 : decode cX10_change 17 = .ok (.iaload, 1) := by decide +kernel
theorem dX10_change_18 : decode cX10_change 18 = .ok (.iastore, 1) := by decide +kernel
theorem dX10_change_19 : decode cX10_change 19 = .ok (.aload_n 0, 1) := by decide +kernel
theorem dX10_change_20 : decode cX10_change 20 = .ok (.getfield 43, 3) := by decide +kernel
theorem dX10_change_23 : decode cX10_change 23 = .ok (.iload_n 2, 1) := by decide +kernel
theorem dX10_change_24 : decode cX10_change 24 = .ok (.iload_n 3, 1) := by decide +kernel
theorem dX10_change_25 : decode cX10_change 25 = .ok (.iastore, 1) := by decide +kernel
theorem dX10_change_26 : decode cX10_change 26 = .ok (.return_, 1) := by decide +kernel
theorem dX10_swap_0 : decode cX10_swap 0 = .ok (.iload_n 1, 1) := by decide +kernel
theorem dX10_swap_1 : decode cX10_swap 1 = .ok (.invokestatic 209, 3) := by decide +kernel
theorem dX10_swap_4 : decode cX10_swap 4 = .ok (.ifCond .eq 13, 3) := by decide +kernel
theorem dX10_swap_7 : decode cX10_swap 7 = .ok (.iload_n 2, 1) := by decide +kernel
theorem dX10_swap_8 : decode cX10_swap 8 = .ok (.i2l, 1) := by decide +kernel
theorem dX10_swap_9 : decode cX10_swap 9 = .ok (.lconst 0, 1) := by decide +kernel
theorem dX10_swap_10 : decode cX10_swap 10 = .ok (.lconst 1, 1) := by decide +kernel
theorem dX10_swap_11 : decode cX10_swap 11 = .ok (.invokestatic 109, 3) := by decide +kernel
theorem dX10_swap_14 : decode cX10_swap 14 = .ok (.ifCond .ne 5, 3) := by decide +kernel
theorem dX10_swap_17 : decode cX10_swap 17 = .ok (.iconst (-1), 1) := by decide +kernel
theorem dX10_swap_18 : decode cX10_swap 18 = .ok (.ireturn, 1) := by decide +kernel
theorem dX10_swap_19 : decode cX10_swap 19 = .ok (.bipush (-4), 2) := by decide +kernel
theorem dX10_swap_21 : decode cX10_swap 21 = .ok (.istore_n 3, 1) := by decide +kernel
theorem dX10_swap_22 : decode cX10_swap 22 = .ok (.aload_n 0, 1) := by decide +kernel
theorem dX10_swap_23 : decode cX10_swap 23 = .ok (.iload_n 1, 1) := by decide +kernel
theorem dX10_swap_24 : decode cX10_swap 24 = .ok (.invokevirtual 214, 3) := by decide +kernel
theorem dX10_swap_27 : decode cX10_swap 27 = .ok (.istore 4, 2) := by decide +kernel
theorem dX10_swap_29 : decode cX10_swap 29 = .ok (.iconst 0, 1) := by decide +kernel
theorem dX10_swap_30 : decode cX10_swap 30 = .ok (.istore 5, 2) := by decide +kernel
theorem dX10_swap_32 : decode cX10_swap 32 = .ok (.iload 5, 2) := by decide +kernel
theorem dX10_swap_34 : decode cX10_swap 34 = .ok (.aload_n 0, 1) := by decide +kernel
theorem dX10_swap_35 : decode cX10_swap 35 = .ok (.getfield 13, 3) := by decide +kernel
theorem dX10_swap_38 : decode cX10_swap 38 = .ok (.iconst 0, 1) := by decide +kernel
theorem dX10_swap_39 : decode cX10_swap 39 = .ok (.iaload, 1) := by decide +kernel
theorem dX10_swap_40 : decode cX10_swap 40 = .ok (.if_icmp .ge 91, 3) := by decide +kernel
theorem dX10_swap_43 : decode cX10_swap 43 = .ok (.iload 5, 2) := by decide +kernel
theorem dX10_swap_45 : decode cX10_swap 45 = .ok (.iconst 1, 1) := by decide +kernel
theorem dX10_swap_46 : decode cX10_swap 46 = .ok (.iadd, 1) := by decide +kernel
theorem dX10_swap_47 : decode cX10_swap 47 = .ok (.istore 6, 2) := by decide +kernel
theorem dX10_swap_49 : decode cX10_swap 49 = .ok (.iload 6, 2) := by decide +kernel
theorem dX10_swap_51 : decode cX10_swap 51 = .ok (.aload_n 0, 1) := by decide +kernel
theorem dX10_swap_52 : decode cX10_swap 52 = .ok (.getfield 13, 3) := by decide +kernel
theorem dX10_swap_55 : decode cX10_swap 55 = .ok (.iconst 0, 1) := by decide +kernel
theorem dX10_swap_56 : decode cX10_swap 56 = .ok (.iaload, 1) := by decide +kernel
theorem dX10_swap_57 : decode cX10_swap 57 = .ok (.if_icmp .ge 68, 3) := by decide +kernel
theorem dX10_swap_60 : decode cX10_swap 60 = .ok (.aload_n 0, 1) := by decide +kernel
theorem dX10_swap_61 : decode cX10_swap 61 = .ok (.iload 5, 2) := by decide +kernel
theorem dX10_swap_63 : decode cX10_swap 63 = .ok (.iload 6, 2) := by decide +kernel
theorem dX10_swap_65 : decode cX10_swap 65 = .ok (.invokevirtual 231, 3) := by decide +kernel
theorem dX10_swap_68 : decode cX10_swap 68 = .ok (.aload_n 0, 1) := by decide +kernel
theorem dX10_swap_69 : decode cX10_swap 69 = .ok (.iload_n 1, 1) := by decide +kernel
theorem dX10_swap_70 : decode cX10_swap 70 = .ok (.invokevirtual 214, 3) := by decide +kernel
theorem dX10_swap_73 : decode cX10_swap 73 = .ok (.istore 7, 2) := by decide +kernel
theorem dX10_swap_75 : decode cX10_swap 75 = .ok (.aload_n 0, 1) := by decide +kernel
theorem dX10_swap_76 : decode cX10_swap 76 = .ok (.iload 5, 2) := by decide +kernel
theorem dX10_swap_78 : decode cX10_swap 78 = .ok (.iload 6, 2) := by decide +kernel
theorem dX10_swap_80 : decode cX10_swap 80 = .ok (.invokevirtual 231, 3) := by decide +kernel
theorem dX10_swap_83 : decode cX10_swap 83 = .ok (.iload 7, 2) := by decide +kernel
theorem dX10_swap_85 : decode cX10_swap 85 = .ok (.iload 4, 2) := by decide +kernel
theorem dX10_swap_87 : decode cX10_swap 87 = .ok (.if_icmp .ge 14, 3) := by decide +kernel
theorem dX10_swap_90 : decode cX10_swap 90 = .ok (.bipush 8, 2) := by decide +kernel
theorem dX10_swap_92 : decode cX10_swap 92 = .ok (.iload 5, 2) := by decide +kernel
theorem dX10_swap_94 : decode cX10_swap 94 = .ok (.imul, 1) := by decide +kernel
theorem dX10_swap_95 : decode cX10_swap 95 = .ok (.iload 6, 2) := by decide +kernel
theorem dX10_swap_97 : decode cX10_swap 97 = .ok (.iadd, 1) := by decide +kernel
theorem dX10_swap_98 : decode cX10_swap 98 = .ok (.goto 4, 3) := by decide +kernel
theorem dX10_swap_101 : decode cX10_swap 101 = .ok (.iload_n 3, 1) := by decide +kernel
theorem dX10_swap_102 : decode cX10_swap 102 = .ok (.istore_n 3, 1) := by decide +kernel
theorem dX10_swap_103 : decode cX10_swap 103 = .ok (.iload 7, 2) := by decide +kernel
theorem dX10_swap_105 : decode cX10_swap 105 = .ok (.iload 4, 2) := by decide +kernel
theorem dX10_swap_107 : decode cX10_swap 107 = .ok (.if_icmp .ge 8, 3) := by decide +kernel
theorem dX10_swap_110 : decode cX10_swap 110 = .ok (.iload 7, 2) := by decide +kernel
theorem dX10_swap_112 : decode cX10_swap 112 = .ok (.goto 5, 3) := by decide +kernel
theorem dX10_swap_115 : decode cX10_swap 115 = .ok (.iload 4, 2) := by decide +kernel
theorem dX10_swap_117 : decode cX10_swap 117 = .ok (.istore 4, 2) := by decide +kernel
theorem dX10_swap_119 : decode cX10_swap 119 = .ok (.iinc 6 1, 3) := by decide +kernel
theorem dX10_swap_122 : decode cX10_swap 122 = .ok (.goto (-73), 3) := by decide +kernel
theorem dX10_swap_125 : decode cX10_swap 125 = .ok (.iinc 5 1, 3) := by decide +kernel
theorem dX10_swap_128 : decode cX10_swap 128 = .ok (.goto (-96), 3) := by decide +kernel
theorem dX10_swap_131 : decode cX10_swap 131 = .ok (.iload_n 3, 1) := by decide +kernel
theorem dX10_swap_132 : decode cX10_swap 132 = .ok (.ifCond .lt 7, 3) := by decide +kernel
theorem dX10_swap_135 : decode cX10_swap 135 = .ok (.iload_n 2, 1) := by decide +kernel
theorem dX10_swap_136 : decode cX10_swap 136 = .ok (.ifCond .ne 7, 3) := by decide +kernel
theorem dX10_swap_139 : decode cX10_swap 139 = .ok (.iload_n 3, 1) := by decide +kernel
theorem dX10_swap_140 : decode cX10_swap 140 = .ok (.goto 5, 3) := by decide +kernel
theorem dX10_swap_143 : decode cX10_swap 143 = .ok (.iload 4, 2) := by decide +kernel
theorem dX10_swap_145 : decode cX10_swap 145 = .ok (.ireturn, 1) := by decide +kernel
theorem dX10_sinksIn_0 : decode cX10_sinksIn 0 = .ok (.aload_n 0, 1) := by decide +kernel
theorem dX10_sinksIn_1 : decode cX10_sinksIn 1 = .ok (.getfield 43, 3) := by decide +kernel
theorem dX10_sinksIn_4 : decode cX10_sinksIn 4 = .ok (.iload_n 1, 1) := by decide +kernel
theorem dX10_sinksIn_5 : decode cX10_sinksIn 5 = .ok (.iaload, 1) := by decide +kernel
theorem dX10_sinksIn_6 : decode cX10_sinksIn 6 = .ok (.aload_n 0, 1) := by decide +kernel
theorem dX10_sinksIn_7 : decode cX10_sinksIn 7 = .ok (.getfield 40, 3) := by decide +kernel
theorem dX10_sinksIn_10 : decode cX10_sinksIn 10 = .ok (.iconst 2, 1) := by decide +kernel
theorem dX10_sinksIn_11 : decode cX10_sinksIn 11 = .ok (.iaload, 1) := by decide +kernel
theorem dX10_sinksIn_12 : decode cX10_sinksIn 12 = .ok (.iadd, 1) := by decide +kernel
theorem dX10_sinksIn_13 : decode cX10_sinksIn 13 = .ok (.aload_n 0, 1) := by decide +kernel
theorem dX10_sinksIn_14 : decode cX10_sinksIn 14 = .ok (.getfield 40, 3) := by decide +kernel
theorem dX10_sinksIn_17 : decode cX10_sinksIn 17 = .ok (.iconst 2, 1) := by decide +kernel
theorem dX10_sinksIn_18 : decode cX10_sinksIn 18 = .ok (.iaload, 1) := by decide +kernel
theorem dX10_sinksIn_19 : decode cX10_sinksIn 19 = .ok (.idiv, 1) := by decide +kernel
theorem dX10_sinksIn_20 : decode cX10_sinksIn 20 = .ok (.ireturn, 1) := by decide +kernel
theorem dX10_fall_0 : decode cX10_fall 0 = .ok (.aload_n 0, 1) := by decide +kernel
theorem dX10_fall_1 : decode cX10_fall 1 = .ok (.iload_n 1, 1) := by decide +kernel
theorem dX10_fall_2 : decode cX10_fall 2 = .ok (.iload_n 2, 1) := by decide +kernel
theorem dX10_fall_3 : decode cX10_fall 3 = .ok (.invokevirtual 224, 3) := by decide +kernel
theorem dX10_fall_6 : decode cX10_fall 6 = .ok (.ifCond .eq 13, 3) := by decide +kernel
theorem dX10_fall_9 : decode cX10_fall 9 = .ok (.iload_n 3, 1) := by decide +kernel
theorem dX10_fall_10 : decode cX10_fall 10 = .ok (.i2l, 1) := by decide +kernel
theorem dX10_fall_11 : decode cX10_fall 11 = .ok (.lconst 0, 1) := by decide +kernel
theorem dX10_fall_12 : decode cX10_fall 12 = .ok (.lconst 1, 1) := by decide +kernel
theorem dX10_fall_13 : decode cX10_fall 13 = .ok (.invokestatic 109, 3) := by decide +kernel
theorem dX10_fall_16 : decode cX10_fall 16 = .ok (.ifCond .ne 5, 3) := by decide +kernel
theorem dX10_fall_19 : decode cX10_fall 19 = .ok (.iconst (-1), 1) := by decide +kernel
theorem dX10_fall_20 : decode cX10_fall 20 = .ok (.ireturn, 1) := by decide +kernel
theorem dX10_fall_21 : decode cX10_fall 21 = .ok (.aload_n 0, 1) := by decide +kernel
theorem dX10_fall_22 : decode cX10_fall 22 = .ok (.iload_n 2, 1) := by decide +kernel
theorem dX10_fall_23 : decode cX10_fall 23 = .ok (.invokevirtual 234, 3) := by decide +kernel
theorem dX10_fall_26 : decode cX10_fall 26 = .ok (.aload_n 0, 1) := by decide +kernel
theorem dX10_fall_27 : decode cX10_fall 27 = .ok (.getfield 40, 3) := by decide +kernel
theorem dX10_fall_30 : decode cX10_fall 30 = .ok (.iconst 3, 1) := by decide +kernel
theorem dX10_fall_31 : decode cX10_fall 31 = .ok (.iaload, 1) := by decide +kernel
theorem dX10_fall_32 : decode cX10_fall 32 = .ok (.if_icmp .le 8, 3) := by decide +kernel
theorem dX10_fall_35 : decode cX10_fall 35 = .ok (.bipush (-4), 2) := by decide +kernel
theorem dX10_fall_37 : decode cX10_fall 37 = .ok (.goto 21, 3) := by decide +kernel
theorem dX10_fall_40 : decode cX10_fall 40 = .ok (.iload_n 3, 1) := by decide +kernel
theorem dX10_fall_41 : decode cX10_fall 41 = .ok (.ifCond .ne 11, 3) := by decide +kernel
theorem dX10_fall_44 : decode cX10_fall 44 = .ok (.aload_n 0, 1) := by decide +kernel
theorem dX10_fall_45 : decode cX10_fall 45 = .ok (.iload_n 2, 1) := by decide +kernel
theorem dX10_fall_46 : decode cX10_fall 46 = .ok (.invokevirtual 234, 3) := by decide +kernel
theorem dX10_fall_49 : decode cX10_fall 49 = .ok (.goto 9, 3) := by decide +kernel
theorem dX10_fall_52 : decode cX10_fall 52 = .ok (.aload_n 0, 1) := by decide +kernel
theorem dX10_fall_53 : decode cX10_fall 53 = .ok (.getfield 40, 3) := by decide +kernel
theorem dX10_fall_56 : decode cX10_fall 56 = .ok (.iconst 3, 1) := by decide +kernel
theorem dX10_fall_57 : decode cX10_fall 57 = .ok (.iaload, 1) := by decide +kernel
theorem dX10_fall_58 : decode cX10_fall 58 = .ok (.ireturn, 1) := by decide +kernel
theorem dX10_common_0 : decode cX10_common 0 = .ok (.iload_n 0, 1) := by decide +kernel
theorem dX10_common_1 : decode cX10_common 1 = .ok (.istore_n 2, 1) := by decide +kernel
theorem dX10_common_2 : decode cX10_common 2 = .ok (.iload_n 1, 1) := by decide +kernel
theorem dX10_common_3 : decode cX10_common 3 = .ok (.istore_n 3, 1) := by decide +kernel
theorem dX10_common_4 : decode cX10_common 4 = .ok (.iload_n 3, 1) := by decide +kernel
theorem dX10_common_5 : decode cX10_common 5 = .ok (.ifCond .eq 16, 3) := by decide +kernel
theorem dX10_common_8 : decode cX10_common 8 = .ok (.iload_n 2, 1) := by decide +kernel
theorem dX10_common_9 : decode cX10_common 9 = .ok (.iload_n 3, 1) := by decide +kernel
theorem dX10_common_10 : decode cX10_common 10 = .ok (.irem, 1) := by decide +kernel
theorem dX10_common_11 : decode cX10_common 11 = .ok (.istore 4, 2) := by decide +kernel
theorem dX10_common_13 : decode cX10_common 13 = .ok (.iload_n 3, 1) := by decide +kernel
theorem dX10_common_14 : decode cX10_common 14 = .ok (.istore_n 2, 1) := by decide +kernel
theorem dX10_common_15 : decode cX10_common 15 = .ok (.iload 4, 2) := by decide +kernel
theorem dX10_common_17 : decode cX10_common 17 = .ok (.istore_n 3, 1) := by decide +kernel
theorem dX10_common_18 : decode cX10_common 18 = .ok (.goto (-14), 3) := by decide +kernel
theorem dX10_common_21 : decode cX10_common 21 = .ok (.iload_n 2, 1) := by decide +kernel
theorem dX10_common_22 : decode cX10_common 22 = .ok (.ireturn, 1) := by decide +kernel
theorem dX10_caught_0 : decode cX10_caught 0 = .ok (.aload_n 0, 1) := by decide +kernel
theorem dX10_caught_1 : decode cX10_caught 1 = .ok (.iload_n 1, 1) := by decide +kernel
theorem dX10_caught_2 : decode cX10_caught 2 = .ok (.invokevirtual 163, 3) := by decide +kernel
theorem dX10_caught_5 : decode cX10_caught 5 = .ok (.ifCond .eq 38, 3) := by decide +kernel
theorem dX10_caught_8 : decode cX10_caught 8 = .ok (.iload_n 2, 1) := by decide +kernel
theorem dX10_caught_9 : decode cX10_caught 9 = .ok (.i2l, 1) := by decide +kernel
theorem dX10_caught_10 : decode cX10_caught 10 = .ok (.lconst 0, 1) := by decide +kernel
theorem dX10_caught_11 : decode cX10_caught 11 = .ok (.ldc2_w 237, 3) := by decide +kernel
theorem dX10_caught_14 : decode cX10_caught 14 = .ok (.invokestatic 109, 3) := by decide +kernel
theorem dX10_caught_17 : decode cX10_caught 17 = .ok (.ifCond .eq 26, 3) := by decide +kernel
theorem dX10_caught_20 : decode cX10_caught 20 = .ok (.iload_n 3, 1) := by decide +kernel
theorem dX10_caught_21 : decode cX10_caught 21 = .ok (.i2l, 1) := by decide +kernel
theorem dX10_caught_22 : decode cX10_caught 22 = .ok (.lconst 0, 1) := by decide +kernel
theorem dX10_caught_23 : decode cX10_caught 23 = .ok (.ldc2_w 239, 3) := by decide +kernel
theorem dX10_caught_26 : decode cX10_caught 26 = .ok (.invokestatic 109, 3) := by decide +kernel
theorem dX10_caught_29 : decode cX10_caught 29 = .ok (.ifCond .eq 14, 3) := by decide +kernel
theorem dX10_caught_32 : decode cX10_caught 32 = .ok (.iload 4, 2) := by decide +kernel
theorem dX10_caught_34 : decode cX10_caught 34 = .ok (.i2l, 1) := by decide +kernel
theorem dX10_caught_35 : decode cX10_caught 35 = .ok (.lconst 0, 1) := by decide +kernel
theorem dX10_caught_36 : decode cX10_caught 36 = .ok (.lconst 1, 1) := by decide +kernel
theorem dX10_caught_37 : decode cX10_caught 37 = .ok (.invokestatic 109, 3) := by decide +kernel
theorem dX10_caught_40 : decode cX10_caught 40 = .ok (.ifCond .ne 5, 3) := by decide +kernel
theorem dX10_caught_43 : decode cX10_caught 43 = .ok (.iconst (-1), 1) := by decide +kernel
theorem dX10_caught_44 : decode cX10_caught 44 = .ok (.ireturn, 1) := by decide +kernel
theorem dX10_caught_45 : decode cX10_caught 45 = .ok (.iconst 0, 1) := by decide +kernel
theorem dX10_caught_46 : decode cX10_caught 46 = .ok (.istore 5, 2) := by decide +kernel
theorem dX10_caught_48 : decode cX10_caught 48 = .ok (.iconst 1, 1) := by decide +kernel
theorem dX10_caught_49 : decode cX10_caught 49 = .ok (.istore 6, 2) := by decide +kernel
theorem dX10_caught_51 : decode cX10_caught 51 = .ok (.iconst 0, 1) := by decide +kernel
theorem dX10_caught_52 : decode cX10_caught 52 = .ok (.istore 7, 2) := by decide +kernel
theorem dX10_caught_54 : decode cX10_caught 54 = .ok (.iload 7, 2) := by decide +kernel
theorem dX10_caught_56 : decode cX10_caught 56 = .ok (.iconst 1, 1) := by decide +kernel
theorem dX10_caught_57 : decode cX10_caught 57 = .ok (.iload_n 2, 1) := by decide +kernel
theorem dX10_caught_58 : decode cX10_caught 58 = .ok (.ishl, 1) := by decide +kernel
theorem dX10_caught_59 : decode cX10_caught 59 = .ok (.if_icmp .ge 87, 3) := by decide +kernel
theorem dX10_caught_62 : decode cX10_caught 62 = .ok (.iconst 0, 1) := by decide +kernel
theorem dX10_caught_63 : decode cX10_caught 63 = .ok (.istore 8, 2) := by decide +kernel
theorem dX10_caught_65 : decode cX10_caught 65 = .ok (.iconst 1, 1) := by decide +kernel
theorem dX10_caught_66 : decode cX10_caught 66 = .ok (.istore 9, 2) := by decide +kernel
theorem dX10_caught_68 : decode cX10_caught 68 = .ok (.iconst 0, 1) := by decide +kernel
theorem dX10_caught_69 : decode cX10_caught 69 = .ok (.istore 10, 2) := by decide +kernel
theorem dX10_caught_71 : decode cX10_caught 71 = .ok (.iload 10, 2) := by decide +kernel
theorem dX10_caught_73 : decode cX10_caught 73 = .ok (.iload_n 2, 1) := by decide +kernel
theorem dX10_caught_74 : decode cX10_caught 74 = .ok (.if_icmp .ge 45, 3) := by decide +kernel
theorem dX10_caught_77 : decode cX10_caught 77 = .ok (.iload 8, 2) := by decide +kernel
theorem dX10_caught_79 : decode cX10_caught 79 = .ok (.iload 7, 2) := by decide +kernel
theorem dX10_caught_81 : decode cX10_caught 81 = .ok (.iload 10, 2) := by decide +kernel
theorem dX10_caught_83 : decode cX10_caught 83 = .ok (.ishr, 1) := by decide +kernel
theorem dX10_caught_84 : decode cX10_caught 84 = .ok (.iconst 1, 1) := by decide +kernel
theorem dX10_caught_85 : decode cX10_caught 85 = .ok (.iand, 1) := by decide +kernel
theorem dX10_caught_86 : decode cX10_caught 86 = .ok (.iadd, 1) := by decide +kernel
theorem dX10_caught_87 : decode cX10_caught 87 = .ok (.istore 8, 2) := by decide +kernel
theorem dX10_caught_89 : decode cX10_caught 89 = .ok (.iload 9, 2) := by decide +kernel
theorem dX10_caught_91 : decode cX10_caught 91 = .ok (.iload 7, 2) := by decide +kernel
theorem dX10_caught_93 : decode cX10_caught 93 = .ok (.iload 10, 2) := by decide +kernel
theorem dX10_caught_95 : decode cX10_caught 95 = .ok (.ishr, 1) := by decide +kernel
theorem dX10_caught_96 : decode cX10_caught 96 = .ok (.iconst 1, 1) := by decide +kernel
theorem dX10_caught_97 : decode cX10_caught 97 = .ok (.iand, 1) := by decide +kernel
theorem dX10_caught_98 : decode cX10_caught 98 = .ok (.iconst 1, 1) := by decide +kernel
theorem dX10_caught_99 : decode cX10_caught 99 = .ok (.if_icmp .ne 7, 3) := by decide +kernel
theorem dX10_caught_102 : decode cX10_caught 102 = .ok (.iload_n 3, 1) := by decide +kernel
theorem dX10_caught_103 : decode cX10_caught 103 = .ok (.goto 7, 3) := by decide +kernel
theorem dX10_caught_106 : decode cX10_caught 106 = .ok (.bipush 10, 2) := by decide +kernel
theorem dX10_caught_108 : decode cX10_caught 108 = .ok (.iload_n 3, 1) := by decide +kernel
theorem dX10_caught_109 : decode cX10_caught 109 = .ok (.isub, 1) := by decide +kernel
theorem dX10_caught_110 : decode cX10_caught 110 = .ok (.imul, 1) := by decide +kernel
theorem dX10_caught_111 : decode cX10_caught 111 = .ok (.istore 9, 2) := by decide +kernel
theorem dX10_caught_113 : decode cX10_caught 113 = .ok (.iinc 10 1, 3) := by decide +kernel
theorem dX10_caught_116 : decode cX10_caught 116 = .ok (.goto (-45), 3) := by decide +kernel
theorem dX10_caught_119 : decode cX10_caught 119 = .ok (.iload 5, 2) := by decide +kernel
theorem dX10_caught_121 : decode cX10_caught 121 = .ok (.iload 8, 2) := by decide +kernel
theorem dX10_caught_123 : decode cX10_caught 123 = .ok (.aload_n 0, 1) := by decide +kernel
theorem dX10_caught_124 : decode cX10_caught 124 = .ok (.iload_n 1, 1) := by decide +kernel
theorem dX10_caught_125 : decode cX10_caught 125 = .ok (.invokevirtual 234, 3) := by decide +kernel
theorem dX10_caught_128 : decode cX10_caught 128 = .ok (.if_icmp .ge 8, 3) := by decide +kernel
theorem dX10_caught_131 : decode cX10_caught 131 = .ok (.iload 9, 2) := by decide +kernel
theorem dX10_caught_133 : decode cX10_caught 133 = .ok (.goto 4, 3) := by decide +kernel
theorem dX10_caught_136 : decode cX10_caught 136 = .ok (.iconst 0, 1) := by decide +kernel
theorem dX10_caught_137 : decode cX10_caught 137 = .ok (.iadd, 1) := by decide +kernel
theorem dX10_caught_138 : decode cX10_caught 138 = .ok (.istore 5, 2) := by decide +kernel
theorem dX10_caught_140 : decode cX10_caught 140 = .ok (.iinc 7 1, 3) := by decide +kernel
theorem dX10_caught_143 : decode cX10_caught 143 = .ok (.goto (-89), 3) := by decide +kernel
theorem dX10_caught_146 : decode cX10_caught 146 = .ok (.iconst 0, 1) := by decide +kernel
theorem dX10_caught_147 : decode cX10_caught 147 = .ok (.istore 7, 2) := by decide +kernel
theorem dX10_caught_149 : decode cX10_caught 149 = .ok (.iload 7, 2) := by decide +kernel
theorem dX10_caught_151 : decode cX10_caught 151 = .ok (.iload_n 2, 1) := by decide +kernel
theorem dX10_caught_152 : decode cX10_caught 152 = .ok (.if_icmp .ge 16, 3) := by decide +kernel
theorem dX10_caught_155 : decode cX10_caught 155 = .ok (.iload 6, 2) := by decide +kernel
theorem dX10_caught_157 : decode cX10_caught 157 = .ok (.bipush 10, 2) := by decide +kernel
theorem dX10_caught_159 : decode cX10_caught 159 = .ok (.imul, 1) := by decide +kernel
theorem dX10_caught_160 : decode cX10_caught 160 = .ok (.istore 6, 2) := by decide +kernel
theorem dX10_caught_162 : decode cX10_caught 162 = .ok (.iinc 7 1, 3) := by decide +kernel
theorem dX10_caught_165 : decode cX10_caught 165 = .ok (.goto (-16), 3) := by decide +kernel
theorem dX10_caught_168 : decode cX10_caught 168 = .ok (.iload 5, 2) := by decide +kernel
theorem dX10_caught_170 : decode cX10_caught 170 = .ok (.iload 6, 2) := by decide +kernel
theorem dX10_caught_172 : decode cX10_caught 172 = .ok (.invokestatic 241, 3) := by decide +kernel
theorem dX10_caught_175 : decode cX10_caught 175 = .ok (.istore 7, 2) := by decide +kernel
theorem dX10_caught_177 : decode cX10_caught 177 = .ok (.iload 4, 2) := by decide +kernel
theorem dX10_caught_179 : decode cX10_caught 179 = .ok (.ifCond .ne 11, 3) := by decide +kernel
theorem dX10_caught_182 : decode cX10_caught 182 = .ok (.iload 5, 2) := by decide +kernel
theorem dX10_caught_184 : decode cX10_caught 184 = .ok (.iload 7, 2) := by decide +kernel
theorem dX10_caught_186 : decode cX10_caught 186 = .ok (.idiv, 1) := by decide +kernel
theorem dX10_caught_187 : decode cX10_caught 187 = .ok (.goto 8, 3) := by decide +kernel
theorem dX10_caught_190 : decode cX10_caught 190 = .ok (.iload 6, 2) := by decide +kernel
theorem dX10_caught_192 : decode cX10_caught 192 = .ok (.iload 7, 2) := by decide +kernel
theorem dX10_caught_194 : decode cX10_caught 194 = .ok (.idiv, 1) := by decide +kernel
theorem dX10_caught_195 : decode cX10_caught 195 = .ok (.ireturn, 1) := by decide +kernel
theorem dX10_standsBy_0 : decode cX10_standsBy 0 = .ok (.iload_n 2, 1) := by decide +kernel
theorem dX10_standsBy_1 : decode cX10_standsBy 1 = .ok (.ifCond .eq 19, 3) := by decide +kernel
theorem dX10_standsBy_4 : decode cX10_standsBy 4 = .ok (.aload_n 0, 1) := by decide +kernel
theorem dX10_standsBy_5 : decode cX10_standsBy 5 = .ok (.getfield 40, 3) := by decide +kernel
theorem dX10_standsBy_8 : decode cX10_standsBy 8 = .ok (.iconst 0, 1) := by decide +kernel
theorem dX10_standsBy_9 : decode cX10_standsBy 9 = .ok (.iaload, 1) := by decide +kernel
theorem dX10_standsBy_10 : decode cX10_standsBy 10 = .ok (.aload_n 0, 1) := by decide +kernel
theorem dX10_standsBy_11 : decode cX10_standsBy 11 = .ok (.getfield 43, 3) := by decide +kernel
theorem dX10_standsBy_14 : decode cX10_standsBy 14 = .ok (.iload_n 1, 1) := by decide +kernel
theorem dX10_standsBy_15 : decode cX10_standsBy 15 = .ok (.iaload, 1) := by decide +kernel
theorem dX10_standsBy_16 : decode cX10_standsBy 16 = .ok (.iadd, 1) := by decide +kernel
theorem dX10_standsBy_17 : decode cX10_standsBy 17 = .ok (.goto 17, 3) := by decide +kernel
theorem dX10_standsBy_20 : decode cX10_standsBy 20 = .ok (.iload_n 3, 1) := by decide +kernel
theorem dX10_standsBy_21 : decode cX10_standsBy 21 = .ok (.ifCond .eq 7, 3) := by decide +kernel
theorem dX10_standsBy_24 : decode cX10_standsBy 24 = .ok (.iconst 0, 1) := by decide +kernel
theorem dX10_standsBy_25 : decode cX10_standsBy 25 = .ok (.goto 9, 3) := by decide +kernel
theorem dX10_standsBy_28 : decode cX10_standsBy 28 = .ok (.aload_n 0, 1) := by decide +kernel
theorem dX10_standsBy_29 : decode cX10_standsBy 29 = .ok (.getfield 40, 3) := by decide +kernel
theorem dX10_standsBy_32 : decode cX10_standsBy 32 = .ok (.iconst 1, 1) := by decide +kernel
theorem dX10_standsBy_33 : decode cX10_standsBy 33 = .ok (.iaload, 1) := by decide +kernel
theorem dX10_standsBy_34 : decode cX10_standsBy 34 = .ok (.ireturn, 1) := by decide +kernel
theorem dX10_rests_0 : decode cX10_rests 0 = .ok (.aload_n 0, 1) := by decide +kernel
theorem dX10_rests_1 : decode cX10_rests 1 = .ok (.iload_n 1, 1) := by decide +kernel
theorem dX10_rests_2 : decode cX10_rests 2 = .ok (.iload_n 2, 1) := by decide +kernel
theorem dX10_rests_3 : decode cX10_rests 3 = .ok (.invokevirtual 224, 3) := by decide +kernel
theorem dX10_rests_6 : decode cX10_rests 6 = .ok (.ifCond .eq 13, 3) := by decide +kernel
theorem dX10_rests_9 : decode cX10_rests 9 = .ok (.iload_n 3, 1) := by decide +kernel
theorem dX10_rests_10 : decode cX10_rests 10 = .ok (.i2l, 1) := by decide +kernel
theorem dX10_rests_11 : decode cX10_rests 11 = .ok (.lconst 0, 1) := by decide +kernel
theorem dX10_rests_12 : decode cX10_rests 12 = .ok (.lconst 1, 1) := by decide +kernel
theorem dX10_rests_13 : decode cX10_rests 13 = .ok (.invokestatic 109, 3) := by decide +kernel
theorem dX10_rests_16 : decode cX10_rests 16 = .ok (.ifCond .ne 5, 3) := by decide +kernel
theorem dX10_rests_19 : decode cX10_rests 19 = .ok (.iconst (-1), 1) := by decide +kernel
theorem dX10_rests_20 : decode cX10_rests 20 = .ok (.ireturn, 1) := by decide +kernel
theorem dX10_rests_21 : decode cX10_rests 21 = .ok (.iconst 0, 1) := by decide +kernel
theorem dX10_rests_22 : decode cX10_rests 22 = .ok (.istore 4, 2) := by decide +kernel
theorem dX10_rests_24 : decode cX10_rests 24 = .ok (.bipush (-4), 2) := by decide +kernel
theorem dX10_rests_26 : decode cX10_rests 26 = .ok (.istore 5, 2) := by decide +kernel
theorem dX10_rests_28 : decode cX10_rests 28 = .ok (.iconst 0, 1) := by decide +kernel
theorem dX10_rests_29 : decode cX10_rests 29 = .ok (.istore 6, 2) := by decide +kernel
theorem dX10_rests_31 : decode cX10_rests 31 = .ok (.iload 6, 2) := by decide +kernel
theorem dX10_rests_33 : decode cX10_rests 33 = .ok (.iconst 4, 1) := by decide +kernel
theorem dX10_rests_34 : decode cX10_rests 34 = .ok (.if_icmp .ge 135, 3) := by decide +kernel
theorem dX10_rests_37 : decode cX10_rests 37 = .ok (.iload 6, 2) := by decide +kernel
theorem dX10_rests_39 : decode cX10_rests 39 = .ok (.iconst 2, 1) := by decide +kernel
theorem dX10_rests_40 : decode cX10_rests 40 = .ok (.if_icmp .ge 7, 3) := by decide +kernel
theorem dX10_rests_43 : decode cX10_rests 43 = .ok (.iconst 1, 1) := by decide +kernel
theorem dX10_rests_44 : decode cX10_rests 44 = .ok (.goto 4, 3) := by decide +kernel
theorem dX10_rests_47 : decode cX10_rests 47 = .ok (.iconst 0, 1) := by decide +kernel
theorem dX10_rests_48 : decode cX10_rests 48 = .ok (.istore 7, 2) := by decide +kernel
theorem dX10_rests_50 : decode cX10_rests 50 = .ok (.iload 6, 2) := by decide +kernel
theorem dX10_rests_52 : decode cX10_rests 52 = .ok (.iconst 2, 1) := by decide +kernel
theorem dX10_rests_53 : decode cX10_rests 53 = .ok (.irem, 1) := by decide +kernel
theorem dX10_rests_54 : decode cX10_rests 54 = .ok (.ifCond .ne 7, 3) := by decide +kernel
theorem dX10_rests_57 : decode cX10_rests 57 = .ok (.iconst 1, 1) := by decide +kernel
theorem dX10_rests_58 : decode cX10_rests 58 = .ok (.goto 4, 3) := by decide +kernel
theorem dX10_rests_61 : decode cX10_rests 61 = .ok (.iconst 0, 1) := by decide +kernel
theorem dX10_rests_62 : decode cX10_rests 62 = .ok (.istore 8, 2) := by decide +kernel
theorem dX10_rests_64 : decode cX10_rests 64 = .ok (.aload_n 0, 1) := by decide +kernel
theorem dX10_rests_65 : decode cX10_rests 65 = .ok (.iload_n 1, 1) := by decide +kernel
theorem dX10_rests_66 : decode cX10_rests 66 = .ok (.iload 7, 2) := by decide +kernel
theorem dX10_rests_68 : decode cX10_rests 68 = .ok (.ifCond .ne 7, 3) := by decide +kernel
theorem dX10_rests_71 : decode cX10_rests 71 = .ok (.iconst 1, 1) := by decide +kernel
theorem dX10_rests_72 : decode cX10_rests 72 = .ok (.goto 4, 3) := by decide +kernel
theorem dX10_rests_75 : decode cX10_rests 75 = .ok (.iconst 0, 1) := by decide +kernel
theorem dX10_rests_76 : decode cX10_rests 76 = .ok (.iload 8, 2) := by decide +kernel
theorem dX10_rests_78 : decode cX10_rests 78 = .ok (.invokevirtual 244, 3) := by decide +kernel
theorem dX10_rests_81 : decode cX10_rests 81 = .ok (.aload_n 0, 1) := by decide +kernel
theorem dX10_rests_82 : decode cX10_rests 82 = .ok (.iload_n 1, 1) := by decide +kernel
theorem dX10_rests_83 : decode cX10_rests 83 = .ok (.iload 7, 2) := by decide +kernel
theorem dX10_rests_85 : decode cX10_rests 85 = .ok (.iload 8, 2) := by decide +kernel
theorem dX10_rests_87 : decode cX10_rests 87 = .ok (.invokevirtual 244, 3) := by decide +kernel
theorem dX10_rests_90 : decode cX10_rests 90 = .ok (.if_icmp .lt 36, 3) := by decide +kernel
theorem dX10_rests_93 : decode cX10_rests 93 = .ok (.aload_n 0, 1) := by decide +kernel
theorem dX10_rests_94 : decode cX10_rests 94 = .ok (.iload_n 2, 1) := by decide +kernel
theorem dX10_rests_95 : decode cX10_rests 95 = .ok (.iload 8, 2) := by decide +kernel
theorem dX10_rests_97 : decode cX10_rests 97 = .ok (.ifCond .ne 7, 3) := by decide +kernel
theorem dX10_rests_100 : decode cX10_rests 100 = .ok (.iconst 1, 1) := by decide +kernel
theorem dX10_rests_101 : decode cX10_rests 101 = .ok (.goto 4, 3) := by decide +kernel
theorem dX10_rests_104 : decode cX10_rests 104 = .ok (.iconst 0, 1) := by decide +kernel
theorem dX10_rests_105 : decode cX10_rests 105 = .ok (.iload 7, 2) := by decide +kernel
theorem dX10_rests_107 : decode cX10_rests 107 = .ok (.invokevirtual 244, 3) := by decide +kernel
theorem dX10_rests_110 : decode cX10_rests 110 = .ok (.aload_n 0, 1) := by decide +kernel
theorem dX10_rests_111 : decode cX10_rests 111 = .ok (.iload_n 2, 1) := by decide +kernel
theorem dX10_rests_112 : decode cX10_rests 112 = .ok (.iload 8, 2) := by decide +kernel
theorem dX10_rests_114 : decode cX10_rests 114 = .ok (.iload 7, 2) := by decide +kernel
theorem dX10_rests_116 : decode cX10_rests 116 = .ok (.invokevirtual 244, 3) := by decide +kernel
theorem dX10_rests_119 : decode cX10_rests 119 = .ok (.if_icmp .lt 7, 3) := by decide +kernel
theorem dX10_rests_122 : decode cX10_rests 122 = .ok (.iconst 1, 1) := by decide +kernel
theorem dX10_rests_123 : decode cX10_rests 123 = .ok (.goto 4, 3) := by decide +kernel
theorem dX10_rests_126 : decode cX10_rests 126 = .ok (.iconst 0, 1) := by decide +kernel
theorem dX10_rests_127 : decode cX10_rests 127 = .ok (.istore 9, 2) := by decide +kernel
theorem dX10_rests_129 : decode cX10_rests 129 = .ok (.iload 9, 2) := by decide +kernel
theorem dX10_rests_131 : decode cX10_rests 131 = .ok (.ifCond .eq 13, 3) := by decide +kernel
theorem dX10_rests_134 : decode cX10_rests 134 = .ok (.iload 4, 2) := by decide +kernel
theorem dX10_rests_136 : decode cX10_rests 136 = .ok (.ifCond .ne 8, 3) := by decide +kernel
theorem dX10_rests_139 : decode cX10_rests 139 = .ok (.iload 6, 2) := by decide +kernel
theorem dX10_rests_141 : decode cX10_rests 141 = .ok (.goto 5, 3) := by decide +kernel
theorem dX10_rests_144 : decode cX10_rests 144 = .ok (.iload 5, 2) := by decide +kernel
theorem dX10_rests_146 : decode cX10_rests 146 = .ok (.istore 5, 2) := by decide +kernel
theorem dX10_rests_148 : decode cX10_rests 148 = .ok (.iload 4, 2) := by decide +kernel
theorem dX10_rests_150 : decode cX10_rests 150 = .ok (.iload 9, 2) := by decide +kernel
theorem dX10_rests_152 : decode cX10_rests 152 = .ok (.ifCond .eq 7, 3) := by decide +kernel
theorem dX10_rests_155 : decode cX10_rests 155 = .ok (.iconst 1, 1) := by decide +kernel
theorem dX10_rests_156 : decode cX10_rests 156 = .ok (.goto 4, 3) := by decide +kernel
theorem dX10_rests_159 : decode cX10_rests 159 = .ok (.iconst 0, 1) := by decide +kernel
theorem dX10_rests_160 : decode cX10_rests 160 = .ok (.iadd, 1) := by decide +kernel
theorem dX10_rests_161 : decode cX10_rests 161 = .ok (.istore 4, 2) := by decide +kernel
theorem dX10_rests_163 : decode cX10_rests 163 = .ok (.iinc 6 1, 3) := by decide +kernel
theorem dX10_rests_166 : decode cX10_rests 166 = .ok (.goto (-135), 3) := by decide +kernel
theorem dX10_rests_169 : decode cX10_rests 169 = .ok (.iload_n 3, 1) := by decide +kernel
theorem dX10_rests_170 : decode cX10_rests 170 = .ok (.ifCond .ne 8, 3) := by decide +kernel
theorem dX10_rests_173 : decode cX10_rests 173 = .ok (.iload 4, 2) := by decide +kernel
theorem dX10_rests_175 : decode cX10_rests 175 = .ok (.goto 5, 3) := by decide +kernel
theorem dX10_rests_178 : decode cX10_rests 178 = .ok (.iload 5, 2) := by decide +kernel
theorem dX10_rests_180 : decode cX10_rests 180 = .ok (.ireturn, 1) := by decide +kernel
theorem dX10_seen_0 : decode cX10_seen 0 = .ok (.aload_n 0, 1) := by decide +kernel
theorem dX10_seen_1 : decode cX10_seen 1 = .ok (.iload_n 1, 1) := by decide +kernel
theorem dX10_seen_2 : decode cX10_seen 2 = .ok (.iload_n 2, 1) := by decide +kernel
theorem dX10_seen_3 : decode cX10_seen 3 = .ok (.invokevirtual 224, 3) := by decide +kernel
theorem dX10_seen_6 : decode cX10_seen 6 = .ok (.ifCond .ne 5, 3) := by decide +kernel
theorem dX10_seen_9 : decode cX10_seen 9 = .ok (.iconst (-1), 1) := by decide +kernel
theorem dX10_seen_10 : decode cX10_seen 10 = .ok (.ireturn, 1) := by decide +kernel
theorem dX10_seen_11 : decode cX10_seen 11 = .ok (.aload_n 0, 1) := by decide +kernel
theorem dX10_seen_12 : decode cX10_seen 12 = .ok (.getfield 19, 3) := by decide +kernel
theorem dX10_seen_15 : decode cX10_seen 15 = .ok (.iload_n 1, 1) := by decide +kernel
theorem dX10_seen_16 : decode cX10_seen 16 = .ok (.iaload, 1) := by decide +kernel
theorem dX10_seen_17 : decode cX10_seen 17 = .ok (.aload_n 0, 1) := by decide +kernel
theorem dX10_seen_18 : decode cX10_seen 18 = .ok (.getfield 19, 3) := by decide +kernel
theorem dX10_seen_21 : decode cX10_seen 21 = .ok (.iload_n 2, 1) := by decide +kernel
theorem dX10_seen_22 : decode cX10_seen 22 = .ok (.iaload, 1) := by decide +kernel
theorem dX10_seen_23 : decode cX10_seen 23 = .ok (.if_icmp .ne 6, 3) := by decide +kernel
theorem dX10_seen_26 : decode cX10_seen 26 = .ok (.bipush (-2), 2) := by decide +kernel
theorem dX10_seen_28 : decode cX10_seen 28 = .ok (.ireturn, 1) := by decide +kernel
theorem dX10_seen_29 : decode cX10_seen 29 = .ok (.aload_n 0, 1) := by decide +kernel
theorem dX10_seen_30 : decode cX10_seen 30 = .ok (.getfield 160, 3) := by decide +kernel
theorem dX10_seen_33 : decode cX10_seen 33 = .ok (.bipush 8, 2) := by decide +kernel
theorem dX10_seen_35 : decode cX10_seen 35 = .ok (.if_icmp .ne 6, 3) := by decide +kernel
theorem dX10_seen_38 : decode cX10_seen 38 = .ok (.bipush (-3), 2) := by decide +kernel
theorem dX10_seen_40 : decode cX10_seen 40 = .ok (.ireturn, 1) := by decide +kernel
theorem dX10_seen_41 : decode cX10_seen 41 = .ok (.aload_n 0, 1) := by decide +kernel
theorem dX10_seen_42 : decode cX10_seen 42 = .ok (.getfield 52, 3) := by decide +kernel
theorem dX10_seen_45 : decode cX10_seen 45 = .ok (.aload_n 0, 1) := by decide +kernel
theorem dX10_seen_46 : decode cX10_seen 46 = .ok (.getfield 160, 3) := by decide +kernel
theorem dX10_seen_49 : decode cX10_seen 49 = .ok (.iload_n 1, 1) := by decide +kernel
theorem dX10_seen_50 : decode cX10_seen 50 = .ok (.iastore, 1) := by decide +kernel
theorem dX10_seen_51 : decode cX10_seen 51 = .ok (.aload_n 0, 1) := by decide +kernel
theorem dX10_seen_52 : decode cX10_seen 52 = .ok (.getfield 55, 3) := by decide +kernel
theorem dX10_seen_55 : decode cX10_seen 55 = .ok (.aload_n 0, 1) := by decide +kernel
theorem dX10_seen_56 : decode cX10_seen 56 = .ok (.getfield 160, 3) := by decide +kernel
theorem dX10_seen_59 : decode cX10_seen 59 = .ok (.iload_n 2, 1) := by decide +kernel
theorem dX10_seen_60 : decode cX10_seen 60 = .ok (.iastore, 1) := by decide +kernel
theorem dX10_seen_61 : decode cX10_seen 61 = .ok (.aload_n 0, 1) := by decide +kernel
theorem dX10_seen_62 : decode cX10_seen 62 = .ok (.dup, 1) := by decide +kernel
theorem dX10_seen_63 : decode cX10_seen 63 = .ok (.getfield 160, 3) := by decide +kernel
theorem dX10_seen_66 : decode cX10_seen 66 = .ok (.iconst 1, 1) := by decide +kernel
theorem dX10_seen_67 : decode cX10_seen 67 = .ok (.iadd, 1) := by decide +kernel
theorem dX10_seen_68 : decode cX10_seen 68 = .ok (.putfield 160, 3) := by decide +kernel
theorem dX10_seen_71 : decode cX10_seen 71 = .ok (.aload_n 0, 1) := by decide +kernel
theorem dX10_seen_72 : decode cX10_seen 72 = .ok (.getfield 160, 3) := by decide +kernel
theorem dX10_seen_75 : decode cX10_seen 75 = .ok (.ireturn, 1) := by decide +kernel
theorem dX10_forget_0 : decode cX10_forget 0 = .ok (.aload_n 0, 1) := by decide +kernel
theorem dX10_forget_1 : decode cX10_forget 1 = .ok (.getfield 160, 3) := by decide +kernel
theorem dX10_forget_4 : decode cX10_forget 4 = .ok (.istore_n 1, 1) := by decide +kernel
theorem dX10_forget_5 : decode cX10_forget 5 = .ok (.aload_n 0, 1) := by decide +kernel
theorem dX10_forget_6 : decode cX10_forget 6 = .ok (.iconst 0, 1) := by decide +kernel
theorem dX10_forget_7 : decode cX10_forget 7 = .ok (.putfield 160, 3) := by decide +kernel
theorem dX10_forget_10 : decode cX10_forget 10 = .ok (.iload_n 1, 1) := by decide +kernel
theorem dX10_forget_11 : decode cX10_forget 11 = .ok (.ireturn, 1) := by decide +kernel
theorem dX10_fits_0 : decode cX10_fits 0 = .ok (.iconst 0, 1) := by decide +kernel
theorem dX10_fits_1 : decode cX10_fits 1 = .ok (.istore_n 1, 1) := by decide +kernel
theorem dX10_fits_2 : decode cX10_fits 2 = .ok (.iconst 0, 1) := by decide +kernel
theorem dX10_fits_3 : decode cX10_fits 3 = .ok (.istore_n 2, 1) := by decide +kernel
theorem dX10_fits_4 : decode cX10_fits 4 = .ok (.iload_n 2, 1) := by decide +kernel
theorem dX10_fits_5 : decode cX10_fits 5 = .ok (.iconst 4, 1) := by decide +kernel
theorem dX10_fits_6 : decode cX10_fits 6 = .ok (.if_icmp .ge 82, 3) := by decide +kernel
theorem dX10_fits_9 : decode cX10_fits 9 = .ok (.iconst 1, 1) := by decide +kernel
theorem dX10_fits_10 : decode cX10_fits 10 = .ok (.istore_n 3, 1) := by decide +kernel
theorem dX10_fits_11 : decode cX10_fits 11 = .ok (.iconst 0, 1) := by decide +kernel
theorem dX10_fits_12 : decode cX10_fits 12 = .ok (.istore 4, 2) := by decide +kernel
theorem dX10_fits_14 : decode cX10_fits 14 = .ok (.iload 4, 2) := by decide +kernel
theorem dX10_fits_16 : decode cX10_fits 16 = .ok (.aload_n 0, 1) := by decide +kernel
theorem dX10_fits_17 : decode cX10_fits 17 = .ok (.getfield 160, 3) := by decide +kernel
theorem dX10_fits_20 : decode cX10_fits 20 = .ok (.if_icmp .ge 48, 3) := by decide +kernel
theorem dX10_fits_23 : decode cX10_fits 23 = .ok (.iload_n 3, 1) := by decide +kernel
theorem dX10_fits_24 : decode cX10_fits 24 = .ok (.ifCond .eq 36, 3) := by decide +kernel
theorem dX10_fits_27 : decode cX10_fits 27 = .ok (.aload_n 0, 1) := by decide +kernel
theorem dX10_fits_28 : decode cX10_fits 28 = .ok (.iload_n 2, 1) := by decide +kernel
theorem dX10_fits_29 : decode cX10_fits 29 = .ok (.aload_n 0, 1) := by decide +kernel
theorem dX10_fits_30 : decode cX10_fits 30 = .ok (.getfield 52, 3) := by decide +kernel
theorem dX10_fits_33 : decode cX10_fits 33 = .ok (.iload 4, 2) := by decide +kernel
theorem dX10_fits_35 : decode cX10_fits 35 = .ok (.iaload, 1) := by decide +kernel
theorem dX10_fits_36 : decode cX10_fits 36 = .ok (.aload_n 0, 1) := by decide +kernel
theorem dX10_fits_37 : decode cX10_fits 37 = .ok (.getfield 55, 3) := by decide +kernel
theorem dX10_fits_40 : decode cX10_fits 40 = .ok (.iload 4, 2) := by decide +kernel
theorem dX10_fits_42 : decode cX10_fits 42 = .ok (.iaload, 1) := by decide +kernel
theorem dX10_fits_43 : decode cX10_fits 43 = .ok (.invokevirtual 185, 3) := by decide +kernel
theorem dX10_fits_46 : decode cX10_fits 46 = .ok (.aload_n 0, 1) := by decide +kernel
theorem dX10_fits_47 : decode cX10_fits 47 = .ok (.getfield 52, 3) := by decide +kernel
theorem dX10_fits_50 : decode cX10_fits 50 = .ok (.iload 4, 2) := by decide +kernel
theorem dX10_fits_52 : decode cX10_fits 52 = .ok (.iaload, 1) := by decide +kernel
theorem dX10_fits_53 : decode cX10_fits 53 = .ok (.if_icmp .ne 7, 3) := by decide +kernel
theorem dX10_fits_56 : decode cX10_fits 56 = .ok (.iconst 1, 1) := by decide +kernel
theorem dX10_fits_57 : decode cX10_fits 57 = .ok (.goto 4, 3) := by decide +kernel
theorem dX10_fits_60 : decode cX10_fits 60 = .ok (.iconst 0, 1) := by decide +kernel
theorem dX10_fits_61 : decode cX10_fits 61 = .ok (.istore_n 3, 1) := by decide +kernel
theorem dX10_fits_62 : decode cX10_fits 62 = .ok (.iinc 4 1, 3) := by decide +kernel
theorem dX10_fits_65 : decode cX10_fits 65 = .ok (.goto (-51), 3) := by decide +kernel
theorem dX10_fits_68 : decode cX10_fits 68 = .ok (.iload_n 1, 1) := by decide +kernel
theorem dX10_fits_69 : decode cX10_fits 69 = .ok (.iload_n 3, 1) := by decide +kernel
theorem dX10_fits_70 : decode cX10_fits 70 = .ok (.ifCond .eq 9, 3) := by decide +kernel
theorem dX10_fits_73 : decode cX10_fits 73 = .ok (.iconst 1, 1) := by decide +kernel
theorem dX10_fits_74 : decode cX10_fits 74 = .ok (.iload_n 2, 1) := by decide +kernel
theorem dX10_fits_75 : decode cX10_fits 75 = .ok (.ishl, 1) := by decide +kernel
theorem dX10_fits_76 : decode cX10_fits 76 = .ok (.goto 4, 3) := by decide +kernel
theorem dX10_fits_79 : decode cX10_fits 79 = .ok (.iconst 0, 1) := by decide +kernel
theorem dX10_fits_80 : decode cX10_fits 80 = .ok (.ior, 1) := by decide +kernel
theorem dX10_fits_81 : decode cX10_fits 81 = .ok (.istore_n 1, 1) := by decide +kernel
theorem dX10_fits_82 : decode cX10_fits 82 = .ok (.iinc 2 1, 3) := by decide +kernel
theorem dX10_fits_85 : decode cX10_fits 85 = .ok (.goto (-81), 3) := by decide +kernel
theorem dX10_fits_88 : decode cX10_fits 88 = .ok (.iload_n 1, 1) := by decide +kernel
theorem dX10_fits_89 : decode cX10_fits 89 = .ok (.ireturn, 1) := by decide +kernel
theorem dX10_starts_0 : decode cX10_starts 0 = .ok (.iload_n 1, 1) := by decide +kernel
theorem dX10_starts_1 : decode cX10_starts 1 = .ok (.invokestatic 209, 3) := by decide +kernel
theorem dX10_starts_4 : decode cX10_starts 4 = .ok (.ifCond .eq 11, 3) := by decide +kernel
theorem dX10_starts_7 : decode cX10_starts 7 = .ok (.aload_n 0, 1) := by decide +kernel
theorem dX10_starts_8 : decode cX10_starts 8 = .ok (.iload_n 2, 1) := by decide +kernel
theorem dX10_starts_9 : decode cX10_starts 9 = .ok (.invokevirtual 163, 3) := by decide +kernel
theorem dX10_starts_12 : decode cX10_starts 12 = .ok (.ifCond .ne 5, 3) := by decide +kernel
theorem dX10_starts_15 : decode cX10_starts 15 = .ok (.iconst (-1), 1) := by decide +kernel
theorem dX10_starts_16 : decode cX10_starts 16 = .ok (.ireturn, 1) := by decide +kernel
theorem dX10_starts_17 : decode cX10_starts 17 = .ok (.aload_n 0, 1) := by decide +kernel
theorem dX10_starts_18 : decode cX10_starts 18 = .ok (.iload_n 1, 1) := by decide +kernel
theorem dX10_starts_19 : decode cX10_starts 19 = .ok (.invokevirtual 214, 3) := by decide +kernel
theorem dX10_starts_22 : decode cX10_starts 22 = .ok (.pop, 1) := by decide +kernel
theorem dX10_starts_23 : decode cX10_starts 23 = .ok (.aload_n 0, 1) := by decide +kernel
theorem dX10_starts_24 : decode cX10_starts 24 = .ok (.getfield 76, 3) := by decide +kernel
theorem dX10_starts_27 : decode cX10_starts 27 = .ok (.iload_n 2, 1) := by decide +kernel
theorem dX10_starts_28 : decode cX10_starts 28 = .ok (.iaload, 1) := by decide +kernel
theorem dX10_starts_29 : decode cX10_starts 29 = .ok (.ireturn, 1) := by decide +kernel
theorem dX10_bears_0 : decode cX10_bears 0 = .ok (.iload_n 1, 1) := by decide +kernel
theorem dX10_bears_1 : decode cX10_bears 1 = .ok (.invokestatic 209, 3) := by decide +kernel
theorem dX10_bears_4 : decode cX10_bears 4 = .ok (.ifCond .eq 15, 3) := by decide +kernel
theorem dX10_bears_7 : decode cX10_bears 7 = .ok (.iload_n 2, 1) := by decide +kernel
theorem dX10_bears_8 : decode cX10_bears 8 = .ok (.i2l, 1) := by decide +kernel
theorem dX10_bears_9 : decode cX10_bears 9 = .ok (.lconst 0, 1) := by decide +kernel
theorem dX10_bears_10 : decode cX10_bears 10 = .ok (.ldc2_w 217, 3) := by decide +kernel
theorem dX10_bears_13 : decode cX10_bears 13 = .ok (.invokestatic 109, 3) := by decide +kernel
theorem dX10_bears_16 : decode cX10_bears 16 = .ok (.ifCond .ne 5, 3) := by decide +kernel
theorem dX10_bears_19 : decode cX10_bears 19 = .ok (.iconst (-1), 1) := by decide +kernel
theorem dX10_bears_20 : decode cX10_bears 20 = .ok (.ireturn, 1) := by decide +kernel
theorem dX10_bears_21 : decode cX10_bears 21 = .ok (.aload_n 0, 1) := by decide +kernel
theorem dX10_bears_22 : decode cX10_bears 22 = .ok (.iload_n 1, 1) := by decide +kernel
theorem dX10_bears_23 : decode cX10_bears 23 = .ok (.invokevirtual 214, 3) := by decide +kernel
theorem dX10_bears_26 : decode cX10_bears 26 = .ok (.pop, 1) := by decide +kernel
theorem dX10_bears_27 : decode cX10_bears 27 = .ok (.iconst 0, 1) := by decide +kernel
theorem dX10_bears_28 : decode cX10_bears 28 = .ok (.istore_n 3, 1) := by decide +kernel
theorem dX10_bears_29 : decode cX10_bears 29 = .ok (.iconst 0, 1) := by decide +kernel
theorem dX10_bears_30 : decode cX10_bears 30 = .ok (.istore 4, 2) := by decide +kernel
theorem dX10_bears_32 : decode cX10_bears 32 = .ok (.iload 4, 2) := by decide +kernel
theorem dX10_bears_34 : decode cX10_bears 34 = .ok (.aload_n 0, 1) := by decide +kernel
theorem dX10_bears_35 : decode cX10_bears 35 = .ok (.getfield 13, 3) := by decide +kernel
theorem dX10_bears_38 : decode cX10_bears 38 = .ok (.iconst 0, 1) := by decide +kernel
theorem dX10_bears_39 : decode cX10_bears 39 = .ok (.iaload, 1) := by decide +kernel
theorem dX10_bears_40 : decode cX10_bears 40 = .ok (.if_icmp .ge 31, 3) := by decide +kernel
theorem dX10_bears_43 : decode cX10_bears 43 = .ok (.iload_n 3, 1) := by decide +kernel
theorem dX10_bears_44 : decode cX10_bears 44 = .ok (.aload_n 0, 1) := by decide +kernel
theorem dX10_bears_45 : decode cX10_bears 45 = .ok (.getfield 76, 3) := by decide +kernel
theorem dX10_bears_48 : decode cX10_bears 48 = .ok (.iload 4, 2) := by decide +kernel
theorem dX10_bears_50 : decode cX10_bears 50 = .ok (.iaload, 1) := by decide +kernel
theorem dX10_bears_51 : decode cX10_bears 51 = .ok (.iload_n 2, 1) := by decide +kernel
theorem dX10_bears_52 : decode cX10_bears 52 = .ok (.if_icmp .gt 10, 3) := by decide +kernel
theorem dX10_bears_55 : decode cX10_bears 55 = .ok (.iconst 1, 1) := by decide +kernel
theorem dX10_bears_56 : decode cX10_bears 56 = .ok (.iload 4, 2) := by decide +kernel
theorem dX10_bears_58 : decode cX10_bears 58 = .ok (.ishl, 1) := by decide +kernel
theorem dX10_bears_59 : decode cX10_bears 59 = .ok (.goto 4, 3) := by decide +kernel
theorem dX10_bears_62 : decode cX10_bears 62 = .ok (.iconst 0, 1) := by decide +kernel
theorem dX10_bears_63 : decode cX10_bears 63 = .ok (.ior, 1) := by decide +kernel
theorem dX10_bears_64 : decode cX10_bears 64 = .ok (.istore_n 3, 1) := by decide +kernel
theorem dX10_bears_65 : decode cX10_bears 65 = .ok (.iinc 4 1, 3) := by decide +kernel
theorem dX10_bears_68 : decode cX10_bears 68 = .ok (.goto (-36), 3) := by decide +kernel
theorem dX10_bears_71 : decode cX10_bears 71 = .ok (.iload_n 3, 1) := by decide +kernel
theorem dX10_bears_72 : decode cX10_bears 72 = .ok (.ireturn, 1) := by decide +kernel
theorem dX10_day_0 : decode cX10_day 0 = .ok (.iload_n 1, 1) := by decide +kernel
theorem dX10_day_1 : decode cX10_day 1 = .ok (.invokestatic 209, 3) := by decide +kernel
theorem dX10_day_4 : decode cX10_day 4 = .ok (.ifCond .eq 25, 3) := by decide +kernel
theorem dX10_day_7 : decode cX10_day 7 = .ok (.iload_n 2, 1) := by decide +kernel
theorem dX10_day_8 : decode cX10_day 8 = .ok (.i2l, 1) := by decide +kernel
theorem dX10_day_9 : decode cX10_day 9 = .ok (.lconst 0, 1) := by decide +kernel
theorem dX10_day_10 : decode cX10_day 10 = .ok (.ldc2_w 248, 3) := by decide +kernel
theorem dX10_day_13 : decode cX10_day 13 = .ok (.invokestatic 109, 3) := by decide +kernel
theorem dX10_day_16 : decode cX10_day 16 = .ok (.ifCond .eq 13, 3) := by decide +kernel
theorem dX10_day_19 : decode cX10_day 19 = .ok (.iload_n 3, 1) := by decide +kernel
theorem dX10_day_20 : decode cX10_day 20 = .ok (.i2l, 1) := by decide +kernel
theorem dX10_day_21 : decode cX10_day 21 = .ok (.lconst 0, 1) := by decide +kernel
theorem dX10_day_22 : decode cX10_day 22 = .ok (.lconst 1, 1) := by decide +kernel
theorem dX10_day_23 : decode cX10_day 23 = .ok (.invokestatic 109, 3) := by decide +kernel
theorem dX10_day_26 : decode cX10_day 26 = .ok (.ifCond .ne 5, 3) := by decide +kernel
theorem dX10_day_29 : decode cX10_day 29 = .ok (.iconst (-1), 1) := by decide +kernel
theorem dX10_day_30 : decode cX10_day 30 = .ok (.ireturn, 1) := by decide +kernel
theorem dX10_day_31 : decode cX10_day 31 = .ok (.iconst 0, 1) := by decide +kernel
theorem dX10_day_32 : decode cX10_day 32 = .ok (.istore 4, 2) := by decide +kernel
theorem dX10_day_34 : decode cX10_day 34 = .ok (.iload 4, 2) := by decide +kernel
theorem dX10_day_36 : decode cX10_day 36 = .ok (.bipush 12, 2) := by decide +kernel
theorem dX10_day_38 : decode cX10_day 38 = .ok (.if_icmp .ge 23, 3) := by decide +kernel
theorem dX10_day_41 : decode cX10_day 41 = .ok (.aload_n 0, 1) := by decide +kernel
theorem dX10_day_42 : decode cX10_day 42 = .ok (.getfield 91, 3) := by decide +kernel
theorem dX10_day_45 : decode cX10_day 45 = .ok (.iload 4, 2) := by decide +kernel
theorem dX10_day_47 : decode cX10_day 47 = .ok (.aload_n 0, 1) := by decide +kernel
theorem dX10_day_48 : decode cX10_day 48 = .ok (.getfield 43, 3) := by decide +kernel
theorem dX10_day_51 : decode cX10_day 51 = .ok (.iload 4, 2) := by decide +kernel
theorem dX10_day_53 : decode cX10_day 53 = .ok (.iaload, 1) := by decide +kernel
theorem dX10_day_54 : decode cX10_day 54 = .ok (.iastore, 1) := by decide +kernel
theorem dX10_day_55 : decode cX10_day 55 = .ok (.iinc 4 1, 3) := by decide +kernel
theorem dX10_day_58 : decode cX10_day 58 = .ok (.goto (-24), 3) := by decide +kernel
theorem dX10_day_61 : decode cX10_day 61 = .ok (.iconst 0, 1) := by decide +kernel
theorem dX10_day_62 : decode cX10_day 62 = .ok (.istore 4, 2) := by decide +kernel
theorem dX10_day_64 : decode cX10_day 64 = .ok (.iload 4, 2) := by decide +kernel
theorem dX10_day_66 : decode cX10_day 66 = .ok (.bipush 6, 2) := by decide +kernel
theorem dX10_day_68 : decode cX10_day 68 = .ok (.if_icmp .ge 69, 3) := by decide +kernel
theorem dX10_day_71 : decode cX10_day 71 = .ok (.ldc2_w 250, 3) := by decide +kernel
theorem dX10_day_74 : decode cX10_day 74 = .ok (.iload_n 2, 1) := by decide +kernel
theorem dX10_day_75 : decode cX10_day 75 = .ok (.i2l, 1) := by decide +kernel
theorem dX10_day_76 : decode cX10_day 76 = .ok (.lmul, 1) := by decide +kernel
theorem dX10_day_77 : decode cX10_day 77 = .ok (.ldc2_w 252, 3) := by decide +kernel
theorem dX10_day_80 : decode cX10_day 80 = .ok (.iload 4, 2) := by decide +kernel
theorem dX10_day_82 : decode cX10_day 82 = .ok (.i2l, 1) := by decide +kernel
theorem dX10_day_83 : decode cX10_day 83 = .ok (.lmul, 1) := by decide +kernel
theorem dX10_day_84 : decode cX10_day 84 = .ok (.ladd, 1) := by decide +kernel
theorem dX10_day_85 : decode cX10_day 85 = .ok (.lconst 1, 1) := by decide +kernel
theorem dX10_day_86 : decode cX10_day 86 = .ok (.ladd, 1) := by decide +kernel
theorem dX10_day_87 : decode cX10_day 87 = .ok (.lstore 5, 2) := by decide +kernel
theorem dX10_day_89 : decode cX10_day 89 = .ok (.lload 5, 2) := by decide +kernel
theorem dX10_day_91 : decode cX10_day 91 = .ok (.lload 5, 2) := by decide +kernel
theorem dX10_day_93 : decode cX10_day 93 = .ok (.lmul, 1) := by decide +kernel
theorem dX10_day_94 : decode cX10_day 94 = .ok (.ldc2_w 254, 3) := by decide +kernel
theorem dX10_day_97 : decode cX10_day 97 = .ok (.lrem, 1) := by decide +kernel
theorem dX10_day_98 : decode cX10_day 98 = .ok (.l2i, 1) := by decide +kernel
theorem dX10_day_99 : decode cX10_day 99 = .ok (.istore 7, 2) := by decide +kernel
theorem dX10_day_101 : decode cX10_day 101 = .ok (.aload_n 0, 1) := by decide +kernel
theorem dX10_day_102 : decode cX10_day 102 = .ok (.getfield 43, 3) := by decide +kernel
theorem dX10_day_105 : decode cX10_day 105 = .ok (.iload 4, 2) := by decide +kernel
theorem dX10_day_107 : decode cX10_day 107 = .ok (.iload 7, 2) := by decide +kernel
theorem dX10_day_109 : decode cX10_day 109 = .ok (.bipush 64, 2) := by decide +kernel
theorem dX10_day_111 : decode cX10_day 111 = .ok (.idiv, 1) := by decide +kernel
theorem dX10_day_112 : decode cX10_day 112 = .ok (.bipush 10, 2) := by decide +kernel
theorem dX10_day_114 : decode cX10_day 114 = .ok (.irem, 1) := by decide +kernel
theorem dX10_day_115 : decode cX10_day 115 = .ok (.iastore, 1) := by decide +kernel
theorem dX10_day_116 : decode cX10_day 116 = .ok (.aload_n 0, 1) := by decide +kernel
theorem dX10_day_117 : decode cX10_day 117 = .ok (.getfield 43, 3) := by decide +kernel
theorem dX10_day_120 : decode cX10_day 120 = .ok (.bipush 6, 2) := by decide +kernel
theorem dX10_day_122 : decode cX10_day 122 = .ok (.iload 4, 2) := by decide +kernel
theorem dX10_day_124 : decode cX10_day 124 = .ok (.iadd, 1) := by decide +kernel
theorem dX10_day_125 : decode cX10_day 125 = .ok (.iload 7, 2) := by decide +kernel
theorem dX10_day_127 : decode cX10_day 127 = .ok (.bipush 31, 2) := by decide +kernel
theorem dX10_day_129 : decode cX10_day 129 = .ok (.irem, 1) := by decide +kernel
theorem dX10_day_130 : decode cX10_day 130 = .ok (.iastore, 1) := by decide +kernel
theorem dX10_day_131 : decode cX10_day 131 = .ok (.iinc 4 1, 3) := by decide +kernel
theorem dX10_day_134 : decode cX10_day 134 = .ok (.goto (-70), 3) := by decide +kernel
theorem dX10_day_137 : decode cX10_day 137 = .ok (.aload_n 0, 1) := by decide +kernel
theorem dX10_day_138 : decode cX10_day 138 = .ok (.iload_n 1, 1) := by decide +kernel
theorem dX10_day_139 : decode cX10_day 139 = .ok (.invokevirtual 214, 3) := by decide +kernel
theorem dX10_day_142 : decode cX10_day 142 = .ok (.istore 4, 2) := by decide +kernel
theorem dX10_day_144 : decode cX10_day 144 = .ok (.iconst 0, 1) := by decide +kernel
theorem dX10_day_145 : decode cX10_day 145 = .ok (.istore 5, 2) := by decide +kernel
theorem dX10_day_147 : decode cX10_day 147 = .ok (.iload 5, 2) := by decide +kernel
theorem dX10_day_149 : decode cX10_day 149 = .ok (.bipush 12, 2) := by decide +kernel
theorem dX10_day_151 : decode cX10_day 151 = .ok (.if_icmp .ge 23, 3) := by decide +kernel
theorem dX10_day_154 : decode cX10_day 154 = .ok (.aload_n 0, 1) := by decide +kernel
theorem dX10_day_155 : decode cX10_day 155 = .ok (.getfield 43, 3) := by decide +kernel
theorem dX10_day_158 : decode cX10_day 158 = .ok (.iload 5, 2) := by decide +kernel
theorem dX10_day_160 : decode cX10_day 160 = .ok (.aload_n 0, 1) := by decide +kernel
theorem dX10_day_161 : decode cX10_day 161 = .ok (.getfield 91, 3) := by decide +kernel
theorem dX10_day_164 : decode cX10_day 164 = .ok (.iload 5, 2) := by decide +kernel
theorem dX10_day_166 : decode cX10_day 166 = .ok (.iaload, 1) := by decide +kernel
theorem dX10_day_167 : decode cX10_day 167 = .ok (.iastore, 1) := by decide +kernel
theorem dX10_day_168 : decode cX10_day 168 = .ok (.iinc 5 1, 3) := by decide +kernel
theorem dX10_day_171 : decode cX10_day 171 = .ok (.goto (-24), 3) := by decide +kernel
theorem dX10_day_174 : decode cX10_day 174 = .ok (.iload_n 3, 1) := by decide +kernel
theorem dX10_day_175 : decode cX10_day 175 = .ok (.ifCond .ne 8, 3) := by decide +kernel
theorem dX10_day_178 : decode cX10_day 178 = .ok (.iload 4, 2) := by decide +kernel
theorem dX10_day_180 : decode cX10_day 180 = .ok (.goto 7, 3) := by decide +kernel
theorem dX10_day_183 : decode cX10_day 183 = .ok (.aload_n 0, 1) := by decide +kernel
theorem dX10_day_184 : decode cX10_day 184 = .ok (.getfield 195, 3) := by decide +kernel
theorem dX10_day_187 : decode cX10_day 187 = .ok (.ireturn, 1) := by decide +kernel
theorem dX10_keep_0 : decode cX10_keep 0 = .ok (.aload_n 0, 1) := by decide +kernel
theorem dX10_keep_1 : decode cX10_keep 1 = .ok (.getfield 157, 3) := by decide +kernel
theorem dX10_keep_4 : decode cX10_keep 4 = .ok (.iconst 2, 1) := by decide +kernel
theorem dX10_keep_5 : decode cX10_keep 5 = .ok (.if_icmp .ne 6, 3) := by decide +kernel
theorem dX10_keep_8 : decode cX10_keep 8 = .ok (.bipush (-3), 2) := by decide +kernel
theorem dX10_keep_10 : decode cX10_keep 10 = .ok (.ireturn, 1) := by decide +kernel
theorem dX10_keep_11 : decode cX10_keep 11 = .ok (.iconst 0, 1) := by decide +kernel
theorem dX10_keep_12 : decode cX10_keep 12 = .ok (.istore_n 1, 1) := by decide +kernel
theorem dX10_keep_13 : decode cX10_keep 13 = .ok (.iload_n 1, 1) := by decide +kernel
theorem dX10_keep_14 : decode cX10_keep 14 = .ok (.bipush 12, 2) := by decide +kernel
theorem dX10_keep_16 : decode cX10_keep 16 = .ok (.if_icmp .ge 29, 3) := by decide +kernel
theorem dX10_keep_19 : decode cX10_keep 19 = .ok (.aload_n 0, 1) := by decide +kernel
theorem dX10_keep_20 : decode cX10_keep 20 = .ok (.getfield 49, 3) := by decide +kernel
theorem dX10_keep_23 : decode cX10_keep 23 = .ok (.bipush 12, 2) := by decide +kernel
theorem dX10_keep_25 : decode cX10_keep 25 = .ok (.aload_n 0, 1) := by decide +kernel
theorem dX10_keep_26 : decode cX10_keep 26 = .ok (.getfield 157, 3) := by decide +kernel
theorem dX10_keep_29 : decode cX10_keep 29 = .ok (.imul, 1) := by decide +kernel
theorem dX10_keep_30 : decode cX10_keep 30 = .ok (.iload_n 1, 1) := by decide +kernel
theorem dX10_keep_31 : decode cX10_keep 31 = .ok (.iadd, 1) := by decide +kernel
theorem dX10_keep_32 : decode cX10_keep 32 = .ok (.aload_n 0, 1) := by decide +kernel
theorem dX10_keep_33 : decode cX10_keep 33 = .ok (.getfield 43, 3) := by decide +kernel
theorem dX10_keep_36 : decode cX10_keep 36 = .ok (.iload_n 1, 1) := by decide +kernel
theorem dX10_keep_37 : decode cX10_keep 37 = .ok (.iaload, 1) := by decide +kernel
theorem dX10_keep_38 : decode cX10_keep 38 = .ok (.iastore, 1) := by decide +kernel
theorem dX10_keep_39 : decode cX10_keep 39 = .ok (.iinc 1 1, 3) := by decide +kernel
theorem dX10_keep_42 : decode cX10_keep 42 = .ok (.goto (-29), 3) := by decide +kernel
theorem dX10_keep_45 : decode cX10_keep 45 = .ok (.aload_n 0, 1) := by decide +kernel
theorem dX10_keep_46 : decode cX10_keep 46 = .ok (.dup, 1) := by decide +kernel
theorem dX10_keep_47 : decode cX10_keep 47 = .ok (.getfield 157, 3) := by decide +kernel
theorem dX10_keep_50 : decode cX10_keep 50 = .ok (.iconst 1, 1) := by decide +kernel
theorem dX10_keep_51 : decode cX10_keep 51 = .ok (.iadd, 1) := by decide +kernel
theorem dX10_keep_52 : decode cX10_keep 52 = .ok (.putfield 157, 3) := by decide +kernel
theorem dX10_keep_55 : decode cX10_keep 55 = .ok (.aload_n 0, 1) := by decide +kernel
theorem dX10_keep_56 : decode cX10_keep 56 = .ok (.getfield 157, 3) := by decide +kernel
theorem dX10_keep_59 : decode cX10_keep 59 = .ok (.ireturn, 1) := by decide +kernel
theorem dX10_back_0 : decode cX10_back 0 = .ok (.aload_n 0, 1) := by decide +kernel
theorem dX10_back_1 : decode cX10_back 1 = .ok (.getfield 157, 3) := by decide +kernel
theorem dX10_back_4 : decode cX10_back 4 = .ok (.ifCond .ne 6, 3) := by decide +kernel
theorem dX10_back_7 : decode cX10_back 7 = .ok (.bipush (-2), 2) := by decide +kernel
theorem dX10_back_9 : decode cX10_back 9 = .ok (.ireturn, 1) := by decide +kernel
theorem dX10_back_10 : decode cX10_back 10 = .ok (.aload_n 0, 1) := by decide +kernel
theorem dX10_back_11 : decode cX10_back 11 = .ok (.dup, 1) := by decide +kernel
theorem dX10_back_12 : decode cX10_back 12 = .ok (.getfield 157, 3) := by decide +kernel
theorem dX10_back_15 : decode cX10_back 15 = .ok (.iconst 1, 1) := by decide +kernel
theorem dX10_back_16 : decode cX10_back 16 = .ok (.isub, 1) := by decide +kernel
theorem dX10_back_17 : decode cX10_back 17 = .ok (.putfield 157, 3) := by decide +kernel
theorem dX10_back_20 : decode cX10_back 20 = .ok (.iconst 0, 1) := by decide +kernel
theorem dX10_back_21 : decode cX10_back 21 = .ok (.istore_n 1, 1) := by decide +kernel
theorem dX10_back_22 : decode cX10_back 22 = .ok (.iload_n 1, 1) := by decide +kernel
theorem dX10_back_23 : decode cX10_back 23 = .ok (.bipush 12, 2) := by decide +kernel
theorem dX10_back_25 : decode cX10_back 25 = .ok (.if_icmp .ge 29, 3) := by decide +kernel
theorem dX10_back_28 : decode cX10_back 28 = .ok (.aload_n 0, 1) := by decide +kernel
theorem dX10_back_29 : decode cX10_back 29 = .ok (.getfield 43, 3) := by decide +kernel
theorem dX10_back_32 : decode cX10_back 32 = .ok (.iload_n 1, 1) := by decide +kernel
theorem dX10_back_33 : decode cX10_back 33 = .ok (.aload_n 0, 1) := by decide +kernel
theorem dX10_back_34 : decode cX10_back 34 = .ok (.getfield 49, 3) := by decide +kernel
theorem dX10_back_37 : decode cX10_back 37 = .ok (.bipush 12, 2) := by decide +kernel
theorem dX10_back_39 : decode cX10_back 39 = .ok (.aload_n 0, 1) := by decide +kernel
theorem dX10_back_40 : decode cX10_back 40 = .ok (.getfield 157, 3) := by decide +kernel
theorem dX10_back_43 : decode cX10_back 43 = .ok (.imul, 1) := by decide +kernel
theorem dX10_back_44 : decode cX10_back 44 = .ok (.iload_n 1, 1) := by decide +kernel
theorem dX10_back_45 : decode cX10_back 45 = .ok (.iadd, 1) := by decide +kernel
theorem dX10_back_46 : decode cX10_back 46 = .ok (.iaload, 1) := by decide +kernel
theorem dX10_back_47 : decode cX10_back 47 = .ok (.iastore, 1) := by decide +kernel
theorem dX10_back_48 : decode cX10_back 48 = .ok (.iinc 1 1, 3) := by decide +kernel
theorem dX10_back_51 : decode cX10_back 51 = .ok (.goto (-29), 3) := by decide +kernel
theorem dX10_back_54 : decode cX10_back 54 = .ok (.aload_n 0, 1) := by decide +kernel
theorem dX10_back_55 : decode cX10_back 55 = .ok (.iconst 0, 1) := by decide +kernel
theorem dX10_back_56 : decode cX10_back 56 = .ok (.putfield 154, 3) := by decide +kernel
theorem dX10_back_59 : decode cX10_back 59 = .ok (.aload_n 0, 1) := by decide +kernel
theorem dX10_back_60 : decode cX10_back 60 = .ok (.getfield 157, 3) := by decide +kernel
theorem dX10_back_63 : decode cX10_back 63 = .ok (.ireturn, 1) := by decide +kernel
theorem dX10_count_0 : decode cX10_count 0 = .ok (.iload_n 1, 1) := by decide +kernel
theorem dX10_count_1 : decode cX10_count 1 = .ok (.tableswitch 73 0 5 #[39, 46, 53, 58, 63, 68], 39) := by decide +kernel
theorem dX10_count_40 : decode cX10_count 40 = .ok (.aload_n 0, 1) := by decide +kernel
theorem dX10_count_41 : decode cX10_count 41 = .ok (.getfield 13, 3) := by decide +kernel
theorem dX10_count_44 : decode cX10_count 44 = .ok (.iconst 0, 1) := by decide +kernel
theorem dX10_count_45 : decode cX10_count 45 = .ok (.iaload, 1) := by decide +kernel
theorem dX10_count_46 : decode cX10_count 46 = .ok (.ireturn, 1) := by decide +kernel
theorem dX10_count_47 : decode cX10_count 47 = .ok (.aload_n 0, 1) := by decide +kernel
theorem dX10_count_48 : decode cX10_count 48 = .ok (.getfield 31, 3) := by decide +kernel
theorem dX10_count_51 : decode cX10_count 51 = .ok (.iconst 0, 1) := by decide +kernel
theorem dX10_count_52 : decode cX10_count 52 = .ok (.iaload, 1) := by decide +kernel
theorem dX10_count_53 : decode cX10_count 53 = .ok (.ireturn, 1) := by decide +kernel
theorem dX10_count_54 : decode cX10_count 54 = .ok (.aload_n 0, 1) := by decide +kernel
theorem dX10_count_55 : decode cX10_count 55 = .ok (.getfield 160, 3) := by decide +kernel
theorem dX10_count_58 : decode cX10_count 58 = .ok (.ireturn, 1) := by decide +kernel
theorem dX10_count_59 : decode cX10_count 59 = .ok (.aload_n 0, 1) := by decide +kernel
theorem dX10_count_60 : decode cX10_count 60 = .ok (.getfield 154, 3) := by decide +kernel
theorem dX10_count_63 : decode cX10_count 63 = .ok (.ireturn, 1) := by decide +kernel
theorem dX10_count_64 : decode cX10_count 64 = .ok (.aload_n 0, 1) := by decide +kernel
theorem dX10_count_65 : decode cX10_count 65 = .ok (.getfield 157, 3) := by decide +kernel
theorem dX10_count_68 : decode cX10_count 68 = .ok (.ireturn, 1) := by decide +kernel
theorem dX10_count_69 : decode cX10_count 69 = .ok (.aload_n 0, 1) := by decide +kernel
theorem dX10_count_70 : decode cX10_count 70 = .ok (.getfield 113, 3) := by decide +kernel
theorem dX10_count_73 : decode cX10_count 73 = .ok (.ireturn, 1) := by decide +kernel
theorem dX10_count_74 : decode cX10_count 74 = .ok (.iconst (-1), 1) := by decide +kernel
theorem dX10_count_75 : decode cX10_count 75 = .ok (.ireturn, 1) := by decide +kernel
end
section
theorem dL_law_0 : decode cL_law 0 = .ok (.new 7, 3) := by decide +kernel
theorem dL_law_3 : decode cL_law 3 = .ok (.dup, 1) := by decide +kernel
theorem dL_law_4 : decode cL_law 4 = .ok (.invokespecial 9, 3) := by decide +kernel
theorem dL_law_7 : decode cL_law 7 = .ok (.astore_n 1, 1) := by decide +kernel
theorem dL_law_8 : decode cL_law 8 = .ok (.new 10, 3) := by decide +kernel
theorem dL_law_11 : decode cL_law 11 = .ok (.dup, 1) := by decide +kernel
theorem dL_law_12 : decode cL_law 12 = .ok (.invokespecial 12, 3) := by decide +kernel
theorem dL_law_15 : decode cL_law 15 = .ok (.astore_n 2, 1) := by decide +kernel
theorem dL_law_16 : decode cL_law 16 = .ok (.iconst 0, 1) := by decide +kernel
theorem dL_law_17 : decode cL_law 17 = .ok (.istore_n 3, 1) := by decide +kernel
theorem dL_law_18 : decode cL_law 18 = .ok (.iload_n 3, 1) := by decide +kernel
theorem dL_law_19 : decode cL_law 19 = .ok (.aload_n 0, 1) := by decide +kernel
theorem dL_law_20 : decode cL_law 20 = .ok (.arraylength, 1) := by decide +kernel
theorem dL_law_21 : decode cL_law 21 = .ok (.iconst 5, 1) := by decide +kernel
theorem dL_law_22 : decode cL_law 22 = .ok (.isub, 1) := by decide +kernel
theorem dL_law_23 : decode cL_law 23 = .ok (.if_icmp .gt 1048, 3) := by decide +kernel
theorem dL_law_26 : decode cL_law 26 = .ok (.aload_n 0, 1) := by decide +kernel
theorem dL_law_27 : decode cL_law 27 = .ok (.iload_n 3, 1) := by decide +kernel
theorem dL_law_28 : decode cL_law 28 = .ok (.iaload, 1) := by decide +kernel
theorem dL_law_29 : decode cL_law 29 = .ok (.bipush 31, 2) := by decide +kernel
theorem dL_law_31 : decode cL_law 31 = .ok (.iand, 1) := by decide +kernel
theorem dL_law_32 : decode cL_law 32 = .ok (.tableswitch 1033 0 30 #[140, 163, 176, 189, 202, 235, 278, 311, 344, 377, 400, 443, 476, 509, 522, 565, 588, 601, 644, 677, 720, 773, 816, 849, 862, 875, 908, 941, 984, 997, 1010], 140) := by decide +kernel
theorem dL_law_172 : decode cL_law 172 = .ok (.aload_n 1, 1) := by decide +kernel
theorem dL_law_173 : decode cL_law 173 = .ok (.aload_n 0, 1) := by decide +kernel
theorem dL_law_174 : decode cL_law 174 = .ok (.iload_n 3, 1) := by decide +kernel
theorem dL_law_175 : decode cL_law 175 = .ok (.iconst 1, 1) := by decide +kernel
theorem dL_law_176 : decode cL_law 176 = .ok (.iadd, 1) := by decide +kernel
theorem dL_law_177 : decode cL_law 177 = .ok (.iaload, 1) := by decide +kernel
theorem dL_law_178 : decode cL_law 178 = .ok (.invokevirtual 13, 3) := by decide +kernel
theorem dL_law_181 : decode cL_law 181 = .ok (.aload_n 2, 1) := by decide +kernel
theorem dL_law_182 : decode cL_law 182 = .ok (.aload_n 0, 1) := by decide +kernel
theorem dL_law_183 : decode cL_law 183 = .ok (.iload_n 3, 1) := by decide +kernel
theorem dL_law_184 : decode cL_law 184 = .ok (.iconst 1, 1) := by decide +kernel
theorem dL_law_185 : decode cL_law 185 = .ok (.iadd, 1) := by decide +kernel
theorem dL_law_186 : decode cL_law 186 = .ok (.iaload, 1) := by decide +kernel
theorem dL_law_187 : decode cL_law 187 = .ok (.invokevirtual 17, 3) := by decide +kernel
theorem dL_law_190 : decode cL_law 190 = .ok (.if_icmp .eq 875, 3) := by decide +kernel
theorem dL_law_193 : decode cL_law 193 = .ok (.iconst 0, 1) := by decide +kernel
theorem dL_law_194 : decode cL_law 194 = .ok (.ireturn, 1) := by decide +kernel
theorem dL_law_195 : decode cL_law 195 = .ok (.aload_n 1, 1) := by decide +kernel
theorem dL_law_196 : decode cL_law 196 = .ok (.invokevirtual 18, 3) := by decide +kernel
theorem dL_law_199 : decode cL_law 199 = .ok (.aload_n 2, 1) := by decide +kernel
theorem dL_law_200 : decode cL_law 200 = .ok (.invokevirtual 22, 3) := by decide +kernel
theorem dL_law_203 : decode cL_law 203 = .ok (.if_icmp .eq 862, 3) := by decide +kernel
theorem dL_law_206 : decode cL_law 206 = .ok (.iconst 0, 1) := by decide +kernel
theorem dL_law_207 : decode cL_law 207 = .ok (.ireturn, 1) := by decide +kernel
theorem dL_law_208 : decode cL_law 208 = .ok (.aload_n 1, 1) := by decide +kernel
theorem dL_law_209 : decode cL_law 209 = .ok (.invokevirtual 23, 3) := by decide +kernel
theorem dL_law_212 : decode cL_law 212 = .ok (.aload_n 2, 1) := by decide +kernel
theorem dL_law_213 : decode cL_law 213 = .ok (.invokevirtual 26, 3) := by decide +kernel
theorem dL_law_216 : decode cL_law 216 = .ok (.if_icmp .eq 849, 3) := by decide +kernel
theorem dL_law_219 : decode cL_law 219 = .ok (.iconst 0, 1) := by decide +kernel
theorem dL_law_220 : decode cL_law 220 = .ok (.ireturn, 1) := by decide +kernel
theorem dL_law_221 : decode cL_law 221 = .ok (.aload_n 1, 1) := by decide +kernel
theorem dL_law_222 : decode cL_law 222 = .ok (.invokevirtual 27, 3) := by decide +kernel
theorem dL_law_225 : decode cL_law 225 = .ok (.aload_n 2, 1) := by decide +kernel
theorem dL_law_226 : decode cL_law 226 = .ok (.invokevirtual 30, 3) := by decide +kernel
theorem dL_law_229 : decode cL_law 229 = .ok (.if_icmp .eq 836, 3) := by decide +kernel
theorem dL_law_232 : decode cL_law 232 = .ok (.iconst 0, 1) := by decide +kernel
theorem dL_law_233 : decode cL_law 233 = .ok (.ireturn, 1) := by decide +kernel
theorem dL_law_234 : decode cL_law 234 = .ok (.aload_n 1, 1) := by decide +kernel
theorem dL_law_235 : decode cL_law 235 = .ok (.aload_n 0, 1) := by decide +kernel
theorem dL_law_236 : decode cL_law 236 = .ok (.iload_n 3, 1) := by decide +kernel
theorem dL_law_237 : decode cL_law 237 = .ok (.iconst 1, 1) := by decide +kernel
theorem dL_law_238 : decode cL_law 238 = .ok (.iadd, 1) := by decide +kernel
theorem dL_law_239 : decode cL_law 239 = .ok (.iaload, 1) := by decide +kernel
theorem dL_law_240 : decode cL_law 240 = .ok (.aload_n 0, 1) := by decide +kernel
theorem dL_law_241 : decode cL_law 241 = .ok (.iload_n 3, 1) := by decide +kernel
theorem dL_law_242 : decode cL_law 242 = .ok (.iconst 2, 1) := by decide +kernel
theorem dL_law_243 : decode cL_law 243 = .ok (.iadd, 1) := by decide +kernel
theorem dL_law_244 : decode cL_law 244 = .ok (.iaload, 1) := by decide +kernel
theorem dL_law_245 : decode cL_law 245 = .ok (.invokevirtual 31, 3) := by decide +kernel
theorem dL_law_248 : decode cL_law 248 = .ok (.aload_n 2, 1) := by decide +kernel
theorem dL_law_249 : decode cL_law 249 = .ok (.aload_n 0, 1) := by decide +kernel
theorem dL_law_250 : decode cL_law 250 = .ok (.iload_n 3, 1) := by decide +kernel
theorem dL_law_251 : decode cL_law 251 = .ok (.iconst 1, 1) := by decide +kernel
theorem dL_law_252 : decode cL_law 252 = .ok (.iadd, 1) := by decide +kernel
theorem dL_law_253 : decode cL_law 253 = .ok (.iaload, 1) := by decide +kernel
theorem dL_law_254 : decode cL_law 254 = .ok (.aload_n 0, 1) := by decide +kernel
theorem dL_law_255 : decode cL_law 255 = .ok (.iload_n 3, 1) := by decide +kernel
theorem dL_law_256 : decode cL_law 256 = .ok (.iconst 2, 1) := by decide +kernel
theorem dL_law_257 : decode cL_law 257 = .ok (.iadd, 1) := by decide +kernel
theorem dL_law_258 : decode cL_law 258 = .ok (.iaload, 1) := by decide +kernel
theorem dL_law_259 : decode cL_law 259 = .ok (.invokevirtual 35, 3) := by decide +kernel
theorem dL_law_262 : decode cL_law 262 = .ok (.if_icmp .eq 803, 3) := by decide +kernel
theorem dL_law_265 : decode cL_law 265 = .ok (.iconst 0, 1) := by decide +kernel
theorem dL_law_266 : decode cL_law 266 = .ok (.ireturn, 1) := by decide +kernel
theorem dL_law_267 : decode cL_law 267 = .ok (.aload_n 1, 1) := by decide +kernel
theorem dL_law_268 : decode cL_law 268 = .ok (.aload_n 0, 1) := by decide +kernel
theorem dL_law_269 : decode cL_law 269 = .ok (.iload_n 3, 1) := by decide +kernel
theorem dL_law_270 : decode cL_law 270 = .ok (.iconst 1, 1) := by decide +kernel
theorem dL_law_271 : decode cL_law 271 = .ok (.iadd, 1) := by decide +kernel
theorem dL_law_272 : decode cL_law 272 = .ok (.iaload, 1) := by decide +kernel
theorem dL_law_273 : decode cL_law 273 = .ok (.aload_n 0, 1) := by decide +kernel
theorem dL_law_274 : decode cL_law 274 = .ok (.iload_n 3, 1) := by decide +kernel
theorem dL_law_275 : decode cL_law 275 = .ok (.iconst 2, 1) := by decide +kernel
theorem dL_law_276 : decode cL_law 276 = .ok (.iadd, 1) := by decide +kernel
theorem dL_law_277 : decode cL_law 277 = .ok (.iaload, 1) := by decide +kernel
theorem dL_law_278 : decode cL_law 278 = .ok (.aload_n 0, 1) := by decide +kernel
theorem dL_law_279 : decode cL_law 279 = .ok (.iload_n 3, 1) := by decide +kernel
theorem dL_law_280 : decode cL_law 280 = .ok (.iconst 3, 1) := by decide +kernel
theorem dL_law_281 : decode cL_law 281 = .ok (.iadd, 1) := by decide +kernel
theorem dL_law_282 : decode cL_law 282 = .ok (.iaload, 1) := by decide +kernel
theorem dL_law_283 : decode cL_law 283 = .ok (.invokevirtual 36, 3) := by decide +kernel
theorem dL_law_286 : decode cL_law 286 = .ok (.aload_n 2, 1) := by decide +kernel
theorem dL_law_287 : decode cL_law 287 = .ok (.aload_n 0, 1) := by decide +kernel
theorem dL_law_288 : decode cL_law 288 = .ok (.iload_n 3, 1) := by decide +kernel
theorem dL_law_289 : decode cL_law 289 = .ok (.iconst 1, 1) := by decide +kernel
theorem dL_law_290 : decode cL_law 290 = .ok (.iadd, 1) := by decide +kernel
theorem dL_law_291 : decode cL_law 291 = .ok (.iaload, 1) := by decide +kernel
theorem dL_law_292 : decode cL_law 292 = .ok (.aload_n 0, 1) := by decide +kernel
theorem dL_law_293 : decode cL_law 293 = .ok (.iload_n 3, 1) := by decide +kernel
theorem dL_law_294 : decode cL_law 294 = .ok (.iconst 2, 1) := by decide +kernel
theorem dL_law_295 : decode cL_law 295 = .ok (.iadd, 1) := by decide +kernel
theorem dL_law_296 : decode cL_law 296 = .ok (.iaload, 1) := by decide +kernel
theorem dL_law_297 : decode cL_law 297 = .ok (.aload_n 0, 1) := by decide +kernel
theorem dL_law_298 : decode cL_law 298 = .ok (.iload_n 3, 1) := by decide +kernel
theorem dL_law_299 : decode cL_law 299 = .ok (.iconst 3, 1) := by decide +kernel
theorem dL_law_300 : decode cL_law 300 = .ok (.iadd, 1) := by decide +kernel
theorem dL_law_301 : decode cL_law 301 = .ok (.iaload, 1) := by decide +kernel
theorem dL_law_302 : decode cL_law 302 = .ok (.invokevirtual 40, 3) := by decide +kernel
theorem dL_law_305 : decode cL_law 305 = .ok (.if_icmp .eq 760, 3) := by decide +kernel
theorem dL_law_308 : decode cL_law 308 = .ok (.iconst 0, 1) := by decide +kernel
theorem dL_law_309 : decode cL_law 309 = .ok (.ireturn, 1) := by decide +kernel
theorem dL_law_310 : decode cL_law 310 = .ok (.aload_n 1, 1) := by decide +kernel
theorem dL_law_311 : decode cL_law 311 = .ok (.aload_n 0, 1) := by decide +kernel
theorem dL_law_312 : decode cL_law 312 = .ok (.iload_n 3, 1) := by decide +kernel
theorem dL_law_313 : decode cL_law 313 = .ok (.iconst 1, 1) := by decide +kernel
theorem dL_law_314 : decode cL_law 314 = .ok (.iadd, 1) := by decide +kernel
theorem dL_law_315 : decode cL_law 315 = .ok (.iaload, 1) := by decide +kernel
theorem dL_law_316 : decode cL_law 316 = .ok (.aload_n 0, 1) := by decide +kernel
theorem dL_law_317 : decode cL_law 317 = .ok (.iload_n 3, 1) := by decide +kernel
theorem dL_law_318 : decode cL_law 318 = .ok (.iconst 2, 1) := by decide +kernel
theorem dL_law_319 : decode cL_law 319 = .ok (.iadd, 1) := by decide +kernel
theorem dL_law_320 : decode cL_law 320 = .ok (.iaload, 1) := by decide +kernel
theorem dL_law_321 : decode cL_law 321 = .ok (.invokevirtual 41, 3) := by decide +kernel
theorem dL_law_324 : decode cL_law 324 = .ok (.aload_n 2, 1) := by decide +kernel
theorem dL_law_325 : decode cL_law 325 = .ok (.aload_n 0, 1) := by decide +kernel
theorem dL_law_326 : decode cL_law 326 = .ok (.iload_n 3, 1) := by decide +kernel
theorem dL_law_327 : decode cL_law 327 = .ok (.iconst 1, 1) := by decide +kernel
theorem dL_law_328 : decode cL_law 328 = .ok (.iadd, 1) := by decide +kernel
theorem dL_law_329 : decode cL_law 329 = .ok (.iaload, 1) := by decide +kernel
theorem dL_law_330 : decode cL_law 330 = .ok (.aload_n 0, 1) := by decide +kernel
theorem dL_law_331 : decode cL_law 331 = .ok (.iload_n 3, 1) := by decide +kernel
theorem dL_law_332 : decode cL_law 332 = .ok (.iconst 2, 1) := by decide +kernel
theorem dL_law_333 : decode cL_law 333 = .ok (.iadd, 1) := by decide +kernel
theorem dL_law_334 : decode cL_law 334 = .ok (.iaload, 1) := by decide +kernel
theorem dL_law_335 : decode cL_law 335 = .ok (.invokevirtual 44, 3) := by decide +kernel
theorem dL_law_338 : decode cL_law 338 = .ok (.if_icmp .eq 727, 3) := by decide +kernel
theorem dL_law_341 : decode cL_law 341 = .ok (.iconst 0, 1) := by decide +kernel
theorem dL_law_342 : decode cL_law 342 = .ok (.ireturn, 1) := by decide +kernel
theorem dL_law_343 : decode cL_law 343 = .ok (.aload_n 1, 1) := by decide +kernel
theorem dL_law_344 : decode cL_law 344 = .ok (.aload_n 0, 1) := by decide +kernel
theorem dL_law_345 : decode cL_law 345 = .ok (.iload_n 3, 1) := by decide +kernel
theorem dL_law_346 : decode cL_law 346 = .ok (.iconst 1, 1) := by decide +kernel
theorem dL_law_347 : decode cL_law 347 = .ok (.iadd, 1) := by decide +kernel
theorem dL_law_348 : decode cL_law 348 = .ok (.iaload, 1) := by decide +kernel
theorem dL_law_349 : decode cL_law 349 = .ok (.aload_n 0, 1) := by decide +kernel
theorem dL_law_350 : decode cL_law 350 = .ok (.iload_n 3, 1) := by decide +kernel
theorem dL_law_351 : decode cL_law 351 = .ok (.iconst 2, 1) := by decide +kernel
theorem dL_law_352 : decode cL_law 352 = .ok (.iadd, 1) := by decide +kernel
theorem dL_law_353 : decode cL_law 353 = .ok (.iaload, 1) := by decide +kernel
theorem dL_law_354 : decode cL_law 354 = .ok (.invokevirtual 45, 3) := by decide +kernel
theorem dL_law_357 : decode cL_law 357 = .ok (.aload_n 2, 1) := by decide +kernel
theorem dL_law_358 : decode cL_law 358 = .ok (.aload_n 0, 1) := by decide +kernel
theorem dL_law_359 : decode cL_law 359 = .ok (.iload_n 3, 1) := by decide +kernel
theorem dL_law_360 : decode cL_law 360 = .ok (.iconst 1, 1) := by decide +kernel
theorem dL_law_361 : decode cL_law 361 = .ok (.iadd, 1) := by decide +kernel
theorem dL_law_362 : decode cL_law 362 = .ok (.iaload, 1) := by decide +kernel
theorem dL_law_363 : decode cL_law 363 = .ok (.aload_n 0, 1) := by decide +kernel
theorem dL_law_364 : decode cL_law 364 = .ok (.iload_n 3, 1) := by decide +kernel
theorem dL_law_365 : decode cL_law 365 = .ok (.iconst 2, 1) := by decide +kernel
theorem dL_law_366 : decode cL_law 366 = .ok (.iadd, 1) := by decide +kernel
theorem dL_law_367 : decode cL_law 367 = .ok (.iaload, 1) := by decide +kernel
theorem dL_law_368 : decode cL_law 368 = .ok (.invokevirtual 48, 3) := by decide +kernel
theorem dL_law_371 : decode cL_law 371 = .ok (.if_icmp .eq 694, 3) := by decide +kernel
theorem dL_law_374 : decode cL_law 374 = .ok (.iconst 0, 1) := by decide +kernel
theorem dL_law_375 : decode cL_law 375 = .ok (.ireturn, 1) := by decide +kernel
theorem dL_law_376 : decode cL_law 376 = .ok (.aload_n 1, 1) := by decide +kernel
theorem dL_law_377 : decode cL_law 377 = .ok (.aload_n 0, 1) := by decide +kernel
theorem dL_law_378 : decode cL_law 378 = .ok (.iload_n 3, 1) := by decide +kernel
theorem dL_law_379 : decode cL_law 379 = .ok (.iconst 1, 1) := by decide +kernel
theorem dL_law_380 : decode cL_law 380 = .ok (.iadd, 1) := by decide +kernel
theorem dL_law_381 : decode cL_law 381 = .ok (.iaload, 1) := by decide +kernel
theorem dL_law_382 : decode cL_law 382 = .ok (.aload_n 0, 1) := by decide +kernel
theorem dL_law_383 : decode cL_law 383 = .ok (.iload_n 3, 1) := by decide +kernel
theorem dL_law_384 : decode cL_law 384 = .ok (.iconst 2, 1) := by decide +kernel
theorem dL_law_385 : decode cL_law 385 = .ok (.iadd, 1) := by decide +kernel
theorem dL_law_386 : decode cL_law 386 = .ok (.iaload, 1) := by decide +kernel
theorem dL_law_387 : decode cL_law 387 = .ok (.invokevirtual 49, 3) := by decide +kernel
theorem dL_law_390 : decode cL_law 390 = .ok (.aload_n 2, 1) := by decide +kernel
theorem dL_law_391 : decode cL_law 391 = .ok (.aload_n 0, 1) := by decide +kernel
theorem dL_law_392 : decode cL_law 392 = .ok (.iload_n 3, 1) := by decide +kernel
theorem dL_law_393 : decode cL_law 393 = .ok (.iconst 1, 1) := by decide +kernel
theorem dL_law_394 : decode cL_law 394 = .ok (.iadd, 1) := by decide +kernel
theorem dL_law_395 : decode cL_law 395 = .ok (.iaload, 1) := by decide +kernel
theorem dL_law_396 : decode cL_law 396 = .ok (.aload_n 0, 1) := by decide +kernel
theorem dL_law_397 : decode cL_law 397 = .ok (.iload_n 3, 1) := by decide +kernel
theorem dL_law_398 : decode cL_law 398 = .ok (.iconst 2, 1) := by decide +kernel
theorem dL_law_399 : decode cL_law 399 = .ok (.iadd, 1) := by decide +kernel
theorem dL_law_400 : decode cL_law 400 = .ok (.iaload, 1) := by decide +kernel
theorem dL_law_401 : decode cL_law 401 = .ok (.invokevirtual 52, 3) := by decide +kernel
theorem dL_law_404 : decode cL_law 404 = .ok (.if_icmp .eq 661, 3) := by decide +kernel
theorem dL_law_407 : decode cL_law 407 = .ok (.iconst 0, 1) := by decide +kernel
theorem dL_law_408 : decode cL_law 408 = .ok (.ireturn, 1) := by decide +kernel
theorem dL_law_409 : decode cL_law 409 = .ok (.aload_n 1, 1) := by decide +kernel
theorem dL_law_410 : decode cL_law 410 = .ok (.aload_n 0, 1) := by decide +kernel
theorem dL_law_411 : decode cL_law 411 = .ok (.iload_n 3, 1) := by decide +kernel
theorem dL_law_412 : decode cL_law 412 = .ok (.iconst 1, 1) := by decide +kernel
theorem dL_law_413 : decode cL_law 413 = .ok (.iadd, 1) := by decide +kernel
theorem dL_law_414 : decode cL_law 414 = .ok (.iaload, 1) := by decide +kernel
theorem dL_law_415 : decode cL_law 415 = .ok (.invokevirtual 53, 3) := by decide +kernel
theorem dL_law_418 : decode cL_law 418 = .ok (.aload_n 2, 1) := by decide +kernel
theorem dL_law_419 : decode cL_law 419 = .ok (.aload_n 0, 1) := by decide +kernel
theorem dL_law_420 : decode cL_law 420 = .ok (.iload_n 3, 1) := by decide +kernel
theorem dL_law_421 : decode cL_law 421 = .ok (.iconst 1, 1) := by decide +kernel
theorem dL_law_422 : decode cL_law 422 = .ok (.iadd, 1) := by decide +kernel
theorem dL_law_423 : decode cL_law 423 = .ok (.iaload, 1) := by decide +kernel
theorem dL_law_424 : decode cL_law 424 = .ok (.invokevirtual 56, 3) := by decide +kernel
theorem dL_law_427 : decode cL_law 427 = .ok (.if_icmp .eq 638, 3) := by decide +kernel
theorem dL_law_430 : decode cL_law 430 = .ok (.iconst 0, 1) := by decide +kernel
theorem dL_law_431 : decode cL_law 431 = .ok (.ireturn, 1) := by decide +kernel
theorem dL_law_432 : decode cL_law 432 = .ok (.aload_n 1, 1) := by decide +kernel
theorem dL_law_433 : decode cL_law 433 = .ok (.aload_n 0, 1) := by decide +kernel
theorem dL_law_434 : decode cL_law 434 = .ok (.iload_n 3, 1) := by decide +kernel
theorem dL_law_435 : decode cL_law 435 = .ok (.iconst 1, 1) := by decide +kernel
theorem dL_law_436 : decode cL_law 436 = .ok (.iadd, 1) := by decide +kernel
theorem dL_law_437 : decode cL_law 437 = .ok (.iaload, 1) := by decide +kernel
theorem dL_law_438 : decode cL_law 438 = .ok (.aload_n 0, 1) := by decide +kernel
theorem dL_law_439 : decode cL_law 439 = .ok (.iload_n 3, 1) := by decide +kernel
theorem dL_law_440 : decode cL_law 440 = .ok (.iconst 2, 1) := by decide +kernel
theorem dL_law_441 : decode cL_law 441 = .ok (.iadd, 1) := by decide +kernel
theorem dL_law_442 : decode cL_law 442 = .ok (.iaload, 1) := by decide +kernel
theorem dL_law_443 : decode cL_law 443 = .ok (.aload_n 0, 1) := by decide +kernel
theorem dL_law_444 : decode cL_law 444 = .ok (.iload_n 3, 1) := by decide +kernel
theorem dL_law_445 : decode cL_law 445 = .ok (.iconst 3, 1) := by decide +kernel
theorem dL_law_446 : decode cL_law 446 = .ok (.iadd, 1) := by decide +kernel
theorem dL_law_447 : decode cL_law 447 = .ok (.iaload, 1) := by decide +kernel
theorem dL_law_448 : decode cL_law 448 = .ok (.invokevirtual 57, 3) := by decide +kernel
theorem dL_law_451 : decode cL_law 451 = .ok (.aload_n 2, 1) := by decide +kernel
theorem dL_law_452 : decode cL_law 452 = .ok (.aload_n 0, 1) := by decide +kernel
theorem dL_law_453 : decode cL_law 453 = .ok (.iload_n 3, 1) := by decide +kernel
theorem dL_law_454 : decode cL_law 454 = .ok (.iconst 1, 1) := by decide +kernel
theorem dL_law_455 : decode cL_law 455 = .ok (.iadd, 1) := by decide +kernel
theorem dL_law_456 : decode cL_law 456 = .ok (.iaload, 1) := by decide +kernel
theorem dL_law_457 : decode cL_law 457 = .ok (.aload_n 0, 1) := by decide +kernel
theorem dL_law_458 : decode cL_law 458 = .ok (.iload_n 3, 1) := by decide +kernel
theorem dL_law_459 : decode cL_law 459 = .ok (.iconst 2, 1) := by decide +kernel
theorem dL_law_460 : decode cL_law 460 = .ok (.iadd, 1) := by decide +kernel
theorem dL_law_461 : decode cL_law 461 = .ok (.iaload, 1) := by decide +kernel
theorem dL_law_462 : decode cL_law 462 = .ok (.aload_n 0, 1) := by decide +kernel
theorem dL_law_463 : decode cL_law 463 = .ok (.iload_n 3, 1) := by decide +kernel
theorem dL_law_464 : decode cL_law 464 = .ok (.iconst 3, 1) := by decide +kernel
theorem dL_law_465 : decode cL_law 465 = .ok (.iadd, 1) := by decide +kernel
theorem dL_law_466 : decode cL_law 466 = .ok (.iaload, 1) := by decide +kernel
theorem dL_law_467 : decode cL_law 467 = .ok (.invokevirtual 60, 3) := by decide +kernel
theorem dL_law_470 : decode cL_law 470 = .ok (.if_icmp .eq 595, 3) := by decide +kernel
theorem dL_law_473 : decode cL_law 473 = .ok (.iconst 0, 1) := by decide +kernel
theorem dL_law_474 : decode cL_law 474 = .ok (.ireturn, 1) := by decide +kernel
theorem dL_law_475 : decode cL_law 475 = .ok (.aload_n 1, 1) := by decide +kernel
theorem dL_law_476 : decode cL_law 476 = .ok (.aload_n 0, 1) := by decide +kernel
theorem dL_law_477 : decode cL_law 477 = .ok (.iload_n 3, 1) := by decide +kernel
theorem dL_law_478 : decode cL_law 478 = .ok (.iconst 1, 1) := by decide +kernel
theorem dL_law_479 : decode cL_law 479 = .ok (.iadd, 1) := by decide +kernel
theorem dL_law_480 : decode cL_law 480 = .ok (.iaload, 1) := by decide +kernel
theorem dL_law_481 : decode cL_law 481 = .ok (.aload_n 0, 1) := by decide +kernel
theorem dL_law_482 : decode cL_law 482 = .ok (.iload_n 3, 1) := by decide +kernel
theorem dL_law_483 : decode cL_law 483 = .ok (.iconst 2, 1) := by decide +kernel
theorem dL_law_484 : decode cL_law 484 = .ok (.iadd, 1) := by decide +kernel
theorem dL_law_485 : decode cL_law 485 = .ok (.iaload, 1) := by decide +kernel
theorem dL_law_486 : decode cL_law 486 = .ok (.invokevirtual 61, 3) := by decide +kernel
theorem dL_law_489 : decode cL_law 489 = .ok (.aload_n 2, 1) := by decide +kernel
theorem dL_law_490 : decode cL_law 490 = .ok (.aload_n 0, 1) := by decide +kernel
theorem dL_law_491 : decode cL_law 491 = .ok (.iload_n 3, 1) := by decide +kernel
theorem dL_law_492 : decode cL_law 492 = .ok (.iconst 1, 1) := by decide +kernel
theorem dL_law_493 : decode cL_law 493 = .ok (.iadd, 1) := by decide +kernel
theorem dL_law_494 : decode cL_law 494 = .ok (.iaload, 1) := by decide +kernel
theorem dL_law_495 : decode cL_law 495 = .ok (.aload_n 0, 1) := by decide +kernel
theorem dL_law_496 : decode cL_law 496 = .ok (.iload_n 3, 1) := by decide +kernel
theorem dL_law_497 : decode cL_law 497 = .ok (.iconst 2, 1) := by decide +kernel
theorem dL_law_498 : decode cL_law 498 = .ok (.iadd, 1) := by decide +kernel
theorem dL_law_499 : decode cL_law 499 = .ok (.iaload, 1) := by decide +kernel
theorem dL_law_500 : decode cL_law 500 = .ok (.invokevirtual 64, 3) := by decide +kernel
theorem dL_law_503 : decode cL_law 503 = .ok (.if_icmp .eq 562, 3) := by decide +kernel
theorem dL_law_506 : decode cL_law 506 = .ok (.iconst 0, 1) := by decide +kernel
theorem dL_law_507 : decode cL_law 507 = .ok (.ireturn, 1) := by decide +kernel
theorem dL_law_508 : decode cL_law 508 = .ok (.aload_n 1, 1) := by decide +kernel
theorem dL_law_509 : decode cL_law 509 = .ok (.aload_n 0, 1) := by decide +kernel
theorem dL_law_510 : decode cL_law 510 = .ok (.iload_n 3, 1) := by decide +kernel
theorem dL_law_511 : decode cL_law 511 = .ok (.iconst 1, 1) := by decide +kernel
theorem dL_law_512 : decode cL_law 512 = .ok (.iadd, 1) := by decide +kernel
theorem dL_law_513 : decode cL_law 513 = .ok (.iaload, 1) := by decide +kernel
theorem dL_law_514 : decode cL_law 514 = .ok (.aload_n 0, 1) := by decide +kernel
theorem dL_law_515 : decode cL_law 515 = .ok (.iload_n 3, 1) := by decide +kernel
theorem dL_law_516 : decode cL_law 516 = .ok (.iconst 2, 1) := by decide +kernel
theorem dL_law_517 : decode cL_law 517 = .ok (.iadd, 1) := by decide +kernel
theorem dL_law_518 : decode cL_law 518 = .ok (.iaload, 1) := by decide +kernel
theorem dL_law_519 : decode cL_law 519 = .ok (.invokevirtual 65, 3) := by decide +kernel
theorem dL_law_522 : decode cL_law 522 = .ok (.aload_n 2, 1) := by decide +kernel
theorem dL_law_523 : decode cL_law 523 = .ok (.aload_n 0, 1) := by decide +kernel
theorem dL_law_524 : decode cL_law 524 = .ok (.iload_n 3, 1) := by decide +kernel
theorem dL_law_525 : decode cL_law 525 = .ok (.iconst 1, 1) := by decide +kernel
theorem dL_law_526 : decode cL_law 526 = .ok (.iadd, 1) := by decide +kernel
theorem dL_law_527 : decode cL_law 527 = .ok (.iaload, 1) := by decide +kernel
theorem dL_law_528 : decode cL_law 528 = .ok (.aload_n 0, 1) := by decide +kernel
theorem dL_law_529 : decode cL_law 529 = .ok (.iload_n 3, 1) := by decide +kernel
theorem dL_law_530 : decode cL_law 530 = .ok (.iconst 2, 1) := by decide +kernel
theorem dL_law_531 : decode cL_law 531 = .ok (.iadd, 1) := by decide +kernel
theorem dL_law_532 : decode cL_law 532 = .ok (.iaload, 1) := by decide +kernel
theorem dL_law_533 : decode cL_law 533 = .ok (.invokevirtual 68, 3) := by decide +kernel
theorem dL_law_536 : decode cL_law 536 = .ok (.if_icmp .eq 529, 3) := by decide +kernel
theorem dL_law_539 : decode cL_law 539 = .ok (.iconst 0, 1) := by decide +kernel
theorem dL_law_540 : decode cL_law 540 = .ok (.ireturn, 1) := by decide +kernel
theorem dL_law_541 : decode cL_law 541 = .ok (.aload_n 1, 1) := by decide +kernel
theorem dL_law_542 : decode cL_law 542 = .ok (.invokevirtual 69, 3) := by decide +kernel
theorem dL_law_545 : decode cL_law 545 = .ok (.aload_n 2, 1) := by decide +kernel
theorem dL_law_546 : decode cL_law 546 = .ok (.invokevirtual 72, 3) := by decide +kernel
theorem dL_law_549 : decode cL_law 549 = .ok (.if_icmp .eq 516, 3) := by decide +kernel
theorem dL_law_552 : decode cL_law 552 = .ok (.iconst 0, 1) := by decide +kernel
theorem dL_law_553 : decode cL_law 553 = .ok (.ireturn, 1) := by decide +kernel
theorem dL_law_554 : decode cL_law 554 = .ok (.aload_n 1, 1) := by decide +kernel
theorem dL_law_555 : decode cL_law 555 = .ok (.aload_n 0, 1) := by decide +kernel
theorem dL_law_556 : decode cL_law 556 = .ok (.iload_n 3, 1) := by decide +kernel
theorem dL_law_557 : decode cL_law 557 = .ok (.iconst 1, 1) := by decide +kernel
theorem dL_law_558 : decode cL_law 558 = .ok (.iadd, 1) := by decide +kernel
theorem dL_law_559 : decode cL_law 559 = .ok (.iaload, 1) := by decide +kernel
theorem dL_law_560 : decode cL_law 560 = .ok (.aload_n 0, 1) := by decide +kernel
theorem dL_law_561 : decode cL_law 561 = .ok (.iload_n 3, 1) := by decide +kernel
theorem dL_law_562 : decode cL_law 562 = .ok (.iconst 2, 1) := by decide +kernel
theorem dL_law_563 : decode cL_law 563 = .ok (.iadd, 1) := by decide +kernel
theorem dL_law_564 : decode cL_law 564 = .ok (.iaload, 1) := by decide +kernel
theorem dL_law_565 : decode cL_law 565 = .ok (.aload_n 0, 1) := by decide +kernel
theorem dL_law_566 : decode cL_law 566 = .ok (.iload_n 3, 1) := by decide +kernel
theorem dL_law_567 : decode cL_law 567 = .ok (.iconst 3, 1) := by decide +kernel
theorem dL_law_568 : decode cL_law 568 = .ok (.iadd, 1) := by decide +kernel
theorem dL_law_569 : decode cL_law 569 = .ok (.iaload, 1) := by decide +kernel
theorem dL_law_570 : decode cL_law 570 = .ok (.invokevirtual 73, 3) := by decide +kernel
theorem dL_law_573 : decode cL_law 573 = .ok (.aload_n 2, 1) := by decide +kernel
theorem dL_law_574 : decode cL_law 574 = .ok (.aload_n 0, 1) := by decide +kernel
theorem dL_law_575 : decode cL_law 575 = .ok (.iload_n 3, 1) := by decide +kernel
theorem dL_law_576 : decode cL_law 576 = .ok (.iconst 1, 1) := by decide +kernel
theorem dL_law_577 : decode cL_law 577 = .ok (.iadd, 1) := by decide +kernel
theorem dL_law_578 : decode cL_law 578 = .ok (.iaload, 1) := by decide +kernel
theorem dL_law_579 : decode cL_law 579 = .ok (.aload_n 0, 1) := by decide +kernel
theorem dL_law_580 : decode cL_law 580 = .ok (.iload_n 3, 1) := by decide +kernel
theorem dL_law_581 : decode cL_law 581 = .ok (.iconst 2, 1) := by decide +kernel
theorem dL_law_582 : decode cL_law 582 = .ok (.iadd, 1) := by decide +kernel
theorem dL_law_583 : decode cL_law 583 = .ok (.iaload, 1) := by decide +kernel
theorem dL_law_584 : decode cL_law 584 = .ok (.aload_n 0, 1) := by decide +kernel
theorem dL_law_585 : decode cL_law 585 = .ok (.iload_n 3, 1) := by decide +kernel
theorem dL_law_586 : decode cL_law 586 = .ok (.iconst 3, 1) := by decide +kernel
theorem dL_law_587 : decode cL_law 587 = .ok (.iadd, 1) := by decide +kernel
theorem dL_law_588 : decode cL_law 588 = .ok (.iaload, 1) := by decide +kernel
theorem dL_law_589 : decode cL_law 589 = .ok (.invokevirtual 76, 3) := by decide +kernel
theorem dL_law_592 : decode cL_law 592 = .ok (.if_icmp .eq 473, 3) := by decide +kernel
theorem dL_law_595 : decode cL_law 595 = .ok (.iconst 0, 1) := by decide +kernel
theorem dL_law_596 : decode cL_law 596 = .ok (.ireturn, 1) := by decide +kernel
theorem dL_law_597 : decode cL_law 597 = .ok (.aload_n 1, 1) := by decide +kernel
theorem dL_law_598 : decode cL_law 598 = .ok (.aload_n 0, 1) := by decide +kernel
theorem dL_law_599 : decode cL_law 599 = .ok (.iload_n 3, 1) := by decide +kernel
theorem dL_law_600 : decode cL_law 600 = .ok (.iconst 1, 1) := by decide +kernel
theorem dL_law_601 : decode cL_law 601 = .ok (.iadd, 1) := by decide +kernel
theorem dL_law_602 : decode cL_law 602 = .ok (.iaload, 1) := by decide +kernel
theorem dL_law_603 : decode cL_law 603 = .ok (.invokevirtual 77, 3) := by decide +kernel
theorem dL_law_606 : decode cL_law 606 = .ok (.aload_n 2, 1) := by decide +kernel
theorem dL_law_607 : decode cL_law 607 = .ok (.aload_n 0, 1) := by decide +kernel
theorem dL_law_608 : decode cL_law 608 = .ok (.iload_n 3, 1) := by decide +kernel
theorem dL_law_609 : decode cL_law 609 = .ok (.iconst 1, 1) := by decide +kernel
theorem dL_law_610 : decode cL_law 610 = .ok (.iadd, 1) := by decide +kernel
theorem dL_law_611 : decode cL_law 611 = .ok (.iaload, 1) := by decide +kernel
theorem dL_law_612 : decode cL_law 612 = .ok (.invokevirtual 80, 3) := by decide +kernel
theorem dL_law_615 : decode cL_law 615 = .ok (.if_icmp .eq 450, 3) := by decide +kernel
theorem dL_law_618 : decode cL_law 618 = .ok (.iconst 0, 1) := by decide +kernel
theorem dL_law_619 : decode cL_law 619 = .ok (.ireturn, 1) := by decide +kernel
theorem dL_law_620 : decode cL_law 620 = .ok (.aload_n 1, 1) := by decide +kernel
theorem dL_law_621 : decode cL_law 621 = .ok (.invokevirtual 81, 3) := by decide +kernel
theorem dL_law_624 : decode cL_law 624 = .ok (.aload_n 2, 1) := by decide +kernel
theorem dL_law_625 : decode cL_law 625 = .ok (.invokevirtual 84, 3) := by decide +kernel
theorem dL_law_628 : decode cL_law 628 = .ok (.if_icmp .eq 437, 3) := by decide +kernel
theorem dL_law_631 : decode cL_law 631 = .ok (.iconst 0, 1) := by decide +kernel
theorem dL_law_632 : decode cL_law 632 = .ok (.ireturn, 1) := by decide +kernel
theorem dL_law_633 : decode cL_law 633 = .ok (.aload_n 1, 1) := by decide +kernel
theorem dL_law_634 : decode cL_law 634 = .ok (.aload_n 0, 1) := by decide +kernel
theorem dL_law_635 : decode cL_law 635 = .ok (.iload_n 3, 1) := by decide +kernel
theorem dL_law_636 : decode cL_law 636 = .ok (.iconst 1, 1) := by decide +kernel
theorem dL_law_637 : decode cL_law 637 = .ok (.iadd, 1) := by decide +kernel
theorem dL_law_638 : decode cL_law 638 = .ok (.iaload, 1) := by decide +kernel
theorem dL_law_639 : decode cL_law 639 = .ok (.aload_n 0, 1) := by decide +kernel
theorem dL_law_640 : decode cL_law 640 = .ok (.iload_n 3, 1) := by decide +kernel
theorem dL_law_641 : decode cL_law 641 = .ok (.iconst 2, 1) := by decide +kernel
theorem dL_law_642 : decode cL_law 642 = .ok (.iadd, 1) := by decide +kernel
theorem dL_law_643 : decode cL_law 643 = .ok (.iaload, 1) := by decide +kernel
theorem dL_law_644 : decode cL_law 644 = .ok (.aload_n 0, 1) := by decide +kernel
theorem dL_law_645 : decode cL_law 645 = .ok (.iload_n 3, 1) := by decide +kernel
theorem dL_law_646 : decode cL_law 646 = .ok (.iconst 3, 1) := by decide +kernel
theorem dL_law_647 : decode cL_law 647 = .ok (.iadd, 1) := by decide +kernel
theorem dL_law_648 : decode cL_law 648 = .ok (.iaload, 1) := by decide +kernel
theorem dL_law_649 : decode cL_law 649 = .ok (.invokevirtual 85, 3) := by decide +kernel
theorem dL_law_652 : decode cL_law 652 = .ok (.aload_n 2, 1) := by decide +kernel
theorem dL_law_653 : decode cL_law 653 = .ok (.aload_n 0, 1) := by decide +kernel
theorem dL_law_654 : decode cL_law 654 = .ok (.iload_n 3, 1) := by decide +kernel
theorem dL_law_655 : decode cL_law 655 = .ok (.iconst 1, 1) := by decide +kernel
theorem dL_law_656 : decode cL_law 656 = .ok (.iadd, 1) := by decide +kernel
theorem dL_law_657 : decode cL_law 657 = .ok (.iaload, 1) := by decide +kernel
theorem dL_law_658 : decode cL_law 658 = .ok (.aload_n 0, 1) := by decide +kernel
theorem dL_law_659 : decode cL_law 659 = .ok (.iload_n 3, 1) := by decide +kernel
theorem dL_law_660 : decode cL_law 660 = .ok (.iconst 2, 1) := by decide +kernel
theorem dL_law_661 : decode cL_law 661 = .ok (.iadd, 1) := by decide +kernel
theorem dL_law_662 : decode cL_law 662 = .ok (.iaload, 1) := by decide +kernel
theorem dL_law_663 : decode cL_law 663 = .ok (.aload_n 0, 1) := by decide +kernel
theorem dL_law_664 : decode cL_law 664 = .ok (.iload_n 3, 1) := by decide +kernel
theorem dL_law_665 : decode cL_law 665 = .ok (.iconst 3, 1) := by decide +kernel
theorem dL_law_666 : decode cL_law 666 = .ok (.iadd, 1) := by decide +kernel
theorem dL_law_667 : decode cL_law 667 = .ok (.iaload, 1) := by decide +kernel
theorem dL_law_668 : decode cL_law 668 = .ok (.invokevirtual 88, 3) := by decide +kernel
theorem dL_law_671 : decode cL_law 671 = .ok (.if_icmp .eq 394, 3) := by decide +kernel
theorem dL_law_674 : decode cL_law 674 = .ok (.iconst 0, 1) := by decide +kernel
theorem dL_law_675 : decode cL_law 675 = .ok (.ireturn, 1) := by decide +kernel
theorem dL_law_676 : decode cL_law 676 = .ok (.aload_n 1, 1) := by decide +kernel
theorem dL_law_677 : decode cL_law 677 = .ok (.aload_n 0, 1) := by decide +kernel
theorem dL_law_678 : decode cL_law 678 = .ok (.iload_n 3, 1) := by decide +kernel
theorem dL_law_679 : decode cL_law 679 = .ok (.iconst 1, 1) := by decide +kernel
theorem dL_law_680 : decode cL_law 680 = .ok (.iadd, 1) := by decide +kernel
theorem dL_law_681 : decode cL_law 681 = .ok (.iaload, 1) := by decide +kernel
theorem dL_law_682 : decode cL_law 682 = .ok (.aload_n 0, 1) := by decide +kernel
theorem dL_law_683 : decode cL_law 683 = .ok (.iload_n 3, 1) := by decide +kernel
theorem dL_law_684 : decode cL_law 684 = .ok (.iconst 2, 1) := by decide +kernel
theorem dL_law_685 : decode cL_law 685 = .ok (.iadd, 1) := by decide +kernel
theorem dL_law_686 : decode cL_law 686 = .ok (.iaload, 1) := by decide +kernel
theorem dL_law_687 : decode cL_law 687 = .ok (.invokevirtual 89, 3) := by decide +kernel
theorem dL_law_690 : decode cL_law 690 = .ok (.aload_n 2, 1) := by decide +kernel
theorem dL_law_691 : decode cL_law 691 = .ok (.aload_n 0, 1) := by decide +kernel
theorem dL_law_692 : decode cL_law 692 = .ok (.iload_n 3, 1) := by decide +kernel
theorem dL_law_693 : decode cL_law 693 = .ok (.iconst 1, 1) := by decide +kernel
theorem dL_law_694 : decode cL_law 694 = .ok (.iadd, 1) := by decide +kernel
theorem dL_law_695 : decode cL_law 695 = .ok (.iaload, 1) := by decide +kernel
theorem dL_law_696 : decode cL_law 696 = .ok (.aload_n 0, 1) := by decide +kernel
theorem dL_law_697 : decode cL_law 697 = .ok (.iload_n 3, 1) := by decide +kernel
theorem dL_law_698 : decode cL_law 698 = .ok (.iconst 2, 1) := by decide +kernel
theorem dL_law_699 : decode cL_law 699 = .ok (.iadd, 1) := by decide +kernel
theorem dL_law_700 : decode cL_law 700 = .ok (.iaload, 1) := by decide +kernel
theorem dL_law_701 : decode cL_law 701 = .ok (.invokevirtual 92, 3) := by decide +kernel
theorem dL_law_704 : decode cL_law 704 = .ok (.if_icmp .eq 361, 3) := by decide +kernel
theorem dL_law_707 : decode cL_law 707 = .ok (.iconst 0, 1) := by decide +kernel
theorem dL_law_708 : decode cL_law 708 = .ok (.ireturn, 1) := by decide +kernel
theorem dL_law_709 : decode cL_law 709 = .ok (.aload_n 1, 1) := by decide +kernel
theorem dL_law_710 : decode cL_law 710 = .ok (.aload_n 0, 1) := by decide +kernel
theorem dL_law_711 : decode cL_law 711 = .ok (.iload_n 3, 1) := by decide +kernel
theorem dL_law_712 : decode cL_law 712 = .ok (.iconst 1, 1) := by decide +kernel
theorem dL_law_713 : decode cL_law 713 = .ok (.iadd, 1) := by decide +kernel
theorem dL_law_714 : decode cL_law 714 = .ok (.iaload, 1) := by decide +kernel
theorem dL_law_715 : decode cL_law 715 = .ok (.aload_n 0, 1) := by decide +kernel
theorem dL_law_716 : decode cL_law 716 = .ok (.iload_n 3, 1) := by decide +kernel
theorem dL_law_717 : decode cL_law 717 = .ok (.iconst 2, 1) := by decide +kernel
theorem dL_law_718 : decode cL_law 718 = .ok (.iadd, 1) := by decide +kernel
theorem dL_law_719 : decode cL_law 719 = .ok (.iaload, 1) := by decide +kernel
theorem dL_law_720 : decode cL_law 720 = .ok (.aload_n 0, 1) := by decide +kernel
theorem dL_law_721 : decode cL_law 721 = .ok (.iload_n 3, 1) := by decide +kernel
theorem dL_law_722 : decode cL_law 722 = .ok (.iconst 3, 1) := by decide +kernel
theorem dL_law_723 : decode cL_law 723 = .ok (.iadd, 1) := by decide +kernel
theorem dL_law_724 : decode cL_law 724 = .ok (.iaload, 1) := by decide +kernel
theorem dL_law_725 : decode cL_law 725 = .ok (.invokevirtual 93, 3) := by decide +kernel
theorem dL_law_728 : decode cL_law 728 = .ok (.aload_n 2, 1) := by decide +kernel
theorem dL_law_729 : decode cL_law 729 = .ok (.aload_n 0, 1) := by decide +kernel
theorem dL_law_730 : decode cL_law 730 = .ok (.iload_n 3, 1) := by decide +kernel
theorem dL_law_731 : decode cL_law 731 = .ok (.iconst 1, 1) := by decide +kernel
theorem dL_law_732 : decode cL_law 732 = .ok (.iadd, 1) := by decide +kernel
theorem dL_law_733 : decode cL_law 733 = .ok (.iaload, 1) := by decide +kernel
theorem dL_law_734 : decode cL_law 734 = .ok (.aload_n 0, 1) := by decide +kernel
theorem dL_law_735 : decode cL_law 735 = .ok (.iload_n 3, 1) := by decide +kernel
theorem dL_law_736 : decode cL_law 736 = .ok (.iconst 2, 1) := by decide +kernel
theorem dL_law_737 : decode cL_law 737 = .ok (.iadd, 1) := by decide +kernel
theorem dL_law_738 : decode cL_law 738 = .ok (.iaload, 1) := by decide +kernel
theorem dL_law_739 : decode cL_law 739 = .ok (.aload_n 0, 1) := by decide +kernel
theorem dL_law_740 : decode cL_law 740 = .ok (.iload_n 3, 1) := by decide +kernel
theorem dL_law_741 : decode cL_law 741 = .ok (.iconst 3, 1) := by decide +kernel
theorem dL_law_742 : decode cL_law 742 = .ok (.iadd, 1) := by decide +kernel
theorem dL_law_743 : decode cL_law 743 = .ok (.iaload, 1) := by decide +kernel
theorem dL_law_744 : decode cL_law 744 = .ok (.invokevirtual 96, 3) := by decide +kernel
theorem dL_law_747 : decode cL_law 747 = .ok (.if_icmp .eq 318, 3) := by decide +kernel
theorem dL_law_750 : decode cL_law 750 = .ok (.iconst 0, 1) := by decide +kernel
theorem dL_law_751 : decode cL_law 751 = .ok (.ireturn, 1) := by decide +kernel
theorem dL_law_752 : decode cL_law 752 = .ok (.aload_n 1, 1) := by decide +kernel
theorem dL_law_753 : decode cL_law 753 = .ok (.aload_n 0, 1) := by decide +kernel
theorem dL_law_754 : decode cL_law 754 = .ok (.iload_n 3, 1) := by decide +kernel
theorem dL_law_755 : decode cL_law 755 = .ok (.iconst 1, 1) := by decide +kernel
theorem dL_law_756 : decode cL_law 756 = .ok (.iadd, 1) := by decide +kernel
theorem dL_law_757 : decode cL_law 757 = .ok (.iaload, 1) := by decide +kernel
theorem dL_law_758 : decode cL_law 758 = .ok (.aload_n 0, 1) := by decide +kernel
theorem dL_law_759 : decode cL_law 759 = .ok (.iload_n 3, 1) := by decide +kernel
theorem dL_law_760 : decode cL_law 760 = .ok (.iconst 2, 1) := by decide +kernel
theorem dL_law_761 : decode cL_law 761 = .ok (.iadd, 1) := by decide +kernel
theorem dL_law_762 : decode cL_law 762 = .ok (.iaload, 1) := by decide +kernel
theorem dL_law_763 : decode cL_law 763 = .ok (.aload_n 0, 1) := by decide +kernel
theorem dL_law_764 : decode cL_law 764 = .ok (.iload_n 3, 1) := by decide +kernel
theorem dL_law_765 : decode cL_law 765 = .ok (.iconst 3, 1) := by decide +kernel
theorem dL_law_766 : decode cL_law 766 = .ok (.iadd, 1) := by decide +kernel
theorem dL_law_767 : decode cL_law 767 = .ok (.iaload, 1) := by decide +kernel
theorem dL_law_768 : decode cL_law 768 = .ok (.aload_n 0, 1) := by decide +kernel
theorem dL_law_769 : decode cL_law 769 = .ok (.iload_n 3, 1) := by decide +kernel
theorem dL_law_770 : decode cL_law 770 = .ok (.iconst 4, 1) := by decide +kernel
theorem dL_law_771 : decode cL_law 771 = .ok (.iadd, 1) := by decide +kernel
theorem dL_law_772 : decode cL_law 772 = .ok (.iaload, 1) := by decide +kernel
theorem dL_law_773 : decode cL_law 773 = .ok (.invokevirtual 97, 3) := by decide +kernel
theorem dL_law_776 : decode cL_law 776 = .ok (.aload_n 2, 1) := by decide +kernel
theorem dL_law_777 : decode cL_law 777 = .ok (.aload_n 0, 1) := by decide +kernel
theorem dL_law_778 : decode cL_law 778 = .ok (.iload_n 3, 1) := by decide +kernel
theorem dL_law_779 : decode cL_law 779 = .ok (.iconst 1, 1) := by decide +kernel
theorem dL_law_780 : decode cL_law 780 = .ok (.iadd, 1) := by decide +kernel
theorem dL_law_781 : decode cL_law 781 = .ok (.iaload, 1) := by decide +kernel
theorem dL_law_782 : decode cL_law 782 = .ok (.aload_n 0, 1) := by decide +kernel
theorem dL_law_783 : decode cL_law 783 = .ok (.iload_n 3, 1) := by decide +kernel
theorem dL_law_784 : decode cL_law 784 = .ok (.iconst 2, 1) := by decide +kernel
theorem dL_law_785 : decode cL_law 785 = .ok (.iadd, 1) := by decide +kernel
theorem dL_law_786 : decode cL_law 786 = .ok (.iaload, 1) := by decide +kernel
theorem dL_law_787 : decode cL_law 787 = .ok (.aload_n 0, 1) := by decide +kernel
theorem dL_law_788 : decode cL_law 788 = .ok (.iload_n 3, 1) := by decide +kernel
theorem dL_law_789 : decode cL_law 789 = .ok (.iconst 3, 1) := by decide +kernel
theorem dL_law_790 : decode cL_law 790 = .ok (.iadd, 1) := by decide +kernel
theorem dL_law_791 : decode cL_law 791 = .ok (.iaload, 1) := by decide +kernel
theorem dL_law_792 : decode cL_law 792 = .ok (.aload_n 0, 1) := by decide +kernel
theorem dL_law_793 : decode cL_law 793 = .ok (.iload_n 3, 1) := by decide +kernel
theorem dL_law_794 : decode cL_law 794 = .ok (.iconst 4, 1) := by decide +kernel
theorem dL_law_795 : decode cL_law 795 = .ok (.iadd, 1) := by decide +kernel
theorem dL_law_796 : decode cL_law 796 = .ok (.iaload, 1) := by decide +kernel
theorem dL_law_797 : decode cL_law 797 = .ok (.invokevirtual 101, 3) := by decide +kernel
theorem dL_law_800 : decode cL_law 800 = .ok (.if_icmp .eq 265, 3) := by decide +kernel
theorem dL_law_803 : decode cL_law 803 = .ok (.iconst 0, 1) := by decide +kernel
theorem dL_law_804 : decode cL_law 804 = .ok (.ireturn, 1) := by decide +kernel
theorem dL_law_805 : decode cL_law 805 = .ok (.aload_n 1, 1) := by decide +kernel
theorem dL_law_806 : decode cL_law 806 = .ok (.aload_n 0, 1) := by decide +kernel
theorem dL_law_807 : decode cL_law 807 = .ok (.iload_n 3, 1) := by decide +kernel
theorem dL_law_808 : decode cL_law 808 = .ok (.iconst 1, 1) := by decide +kernel
theorem dL_law_809 : decode cL_law 809 = .ok (.iadd, 1) := by decide +kernel
theorem dL_law_810 : decode cL_law 810 = .ok (.iaload, 1) := by decide +kernel
theorem dL_law_811 : decode cL_law 811 = .ok (.aload_n 0, 1) := by decide +kernel
theorem dL_law_812 : decode cL_law 812 = .ok (.iload_n 3, 1) := by decide +kernel
theorem dL_law_813 : decode cL_law 813 = .ok (.iconst 2, 1) := by decide +kernel
theorem dL_law_814 : decode cL_law 814 = .ok (.iadd, 1) := by decide +kernel
theorem dL_law_815 : decode cL_law 815 = .ok (.iaload, 1) := by decide +kernel
theorem dL_law_816 : decode cL_law 816 = .ok (.aload_n 0, 1) := by decide +kernel
theorem dL_law_817 : decode cL_law 817 = .ok (.iload_n 3, 1) := by decide +kernel
theorem dL_law_818 : decode cL_law 818 = .ok (.iconst 3, 1) := by decide +kernel
theorem dL_law_819 : decode cL_law 819 = .ok (.iadd, 1) := by decide +kernel
theorem dL_law_820 : decode cL_law 820 = .ok (.iaload, 1) := by decide +kernel
theorem dL_law_821 : decode cL_law 821 = .ok (.invokevirtual 102, 3) := by decide +kernel
theorem dL_law_824 : decode cL_law 824 = .ok (.aload_n 2, 1) := by decide +kernel
theorem dL_law_825 : decode cL_law 825 = .ok (.aload_n 0, 1) := by decide +kernel
theorem dL_law_826 : decode cL_law 826 = .ok (.iload_n 3, 1) := by decide +kernel
theorem dL_law_827 : decode cL_law 827 = .ok (.iconst 1, 1) := by decide +kernel
theorem dL_law_828 : decode cL_law 828 = .ok (.iadd, 1) := by decide +kernel
theorem dL_law_829 : decode cL_law 829 = .ok (.iaload, 1) := by decide +kernel
theorem dL_law_830 : decode cL_law 830 = .ok (.aload_n 0, 1) := by decide +kernel
theorem dL_law_831 : decode cL_law 831 = .ok (.iload_n 3, 1) := by decide +kernel
theorem dL_law_832 : decode cL_law 832 = .ok (.iconst 2, 1) := by decide +kernel
theorem dL_law_833 : decode cL_law 833 = .ok (.iadd, 1) := by decide +kernel
theorem dL_law_834 : decode cL_law 834 = .ok (.iaload, 1) := by decide +kernel
theorem dL_law_835 : decode cL_law 835 = .ok (.aload_n 0, 1) := by decide +kernel
theorem dL_law_836 : decode cL_law 836 = .ok (.iload_n 3, 1) := by decide +kernel
theorem dL_law_837 : decode cL_law 837 = .ok (.iconst 3, 1) := by decide +kernel
theorem dL_law_838 : decode cL_law 838 = .ok (.iadd, 1) := by decide +kernel
theorem dL_law_839 : decode cL_law 839 = .ok (.iaload, 1) := by decide +kernel
theorem dL_law_840 : decode cL_law 840 = .ok (.invokevirtual 105, 3) := by decide +kernel
theorem dL_law_843 : decode cL_law 843 = .ok (.if_icmp .eq 222, 3) := by decide +kernel
theorem dL_law_846 : decode cL_law 846 = .ok (.iconst 0, 1) := by decide +kernel
theorem dL_law_847 : decode cL_law 847 = .ok (.ireturn, 1) := by decide +kernel
theorem dL_law_848 : decode cL_law 848 = .ok (.aload_n 1, 1) := by decide +kernel
theorem dL_law_849 : decode cL_law 849 = .ok (.aload_n 0, 1) := by decide +kernel
theorem dL_law_850 : decode cL_law 850 = .ok (.iload_n 3, 1) := by decide +kernel
theorem dL_law_851 : decode cL_law 851 = .ok (.iconst 1, 1) := by decide +kernel
theorem dL_law_852 : decode cL_law 852 = .ok (.iadd, 1) := by decide +kernel
theorem dL_law_853 : decode cL_law 853 = .ok (.iaload, 1) := by decide +kernel
theorem dL_law_854 : decode cL_law 854 = .ok (.aload_n 0, 1) := by decide +kernel
theorem dL_law_855 : decode cL_law 855 = .ok (.iload_n 3, 1) := by decide +kernel
theorem dL_law_856 : decode cL_law 856 = .ok (.iconst 2, 1) := by decide +kernel
theorem dL_law_857 : decode cL_law 857 = .ok (.iadd, 1) := by decide +kernel
theorem dL_law_858 : decode cL_law 858 = .ok (.iaload, 1) := by decide +kernel
theorem dL_law_859 : decode cL_law 859 = .ok (.invokevirtual 106, 3) := by decide +kernel
theorem dL_law_862 : decode cL_law 862 = .ok (.aload_n 2, 1) := by decide +kernel
theorem dL_law_863 : decode cL_law 863 = .ok (.aload_n 0, 1) := by decide +kernel
theorem dL_law_864 : decode cL_law 864 = .ok (.iload_n 3, 1) := by decide +kernel
theorem dL_law_865 : decode cL_law 865 = .ok (.iconst 1, 1) := by decide +kernel
theorem dL_law_866 : decode cL_law 866 = .ok (.iadd, 1) := by decide +kernel
theorem dL_law_867 : decode cL_law 867 = .ok (.iaload, 1) := by decide +kernel
theorem dL_law_868 : decode cL_law 868 = .ok (.aload_n 0, 1) := by decide +kernel
theorem dL_law_869 : decode cL_law 869 = .ok (.iload_n 3, 1) := by decide +kernel
theorem dL_law_870 : decode cL_law 870 = .ok (.iconst 2, 1) := by decide +kernel
theorem dL_law_871 : decode cL_law 871 = .ok (.iadd, 1) := by decide +kernel
theorem dL_law_872 : decode cL_law 872 = .ok (.iaload, 1) := by decide +kernel
theorem dL_law_873 : decode cL_law 873 = .ok (.invokevirtual 109, 3) := by decide +kernel
theorem dL_law_876 : decode cL_law 876 = .ok (.if_icmp .eq 189, 3) := by decide +kernel
theorem dL_law_879 : decode cL_law 879 = .ok (.iconst 0, 1) := by decide +kernel
theorem dL_law_880 : decode cL_law 880 = .ok (.ireturn, 1) := by decide +kernel
theorem dL_law_881 : decode cL_law 881 = .ok (.aload_n 1, 1) := by decide +kernel
theorem dL_law_882 : decode cL_law 882 = .ok (.invokevirtual 110, 3) := by decide +kernel
theorem dL_law_885 : decode cL_law 885 = .ok (.aload_n 2, 1) := by decide +kernel
theorem dL_law_886 : decode cL_law 886 = .ok (.invokevirtual 113, 3) := by decide +kernel
theorem dL_law_889 : decode cL_law 889 = .ok (.if_icmp .eq 176, 3) := by decide +kernel
theorem dL_law_892 : decode cL_law 892 = .ok (.iconst 0, 1) := by decide +kernel
theorem dL_law_893 : decode cL_law 893 = .ok (.ireturn, 1) := by decide +kernel
theorem dL_law_894 : decode cL_law 894 = .ok (.aload_n 1, 1) := by decide +kernel
theorem dL_law_895 : decode cL_law 895 = .ok (.invokevirtual 114, 3) := by decide +kernel
theorem dL_law_898 : decode cL_law 898 = .ok (.aload_n 2, 1) := by decide +kernel
theorem dL_law_899 : decode cL_law 899 = .ok (.invokevirtual 117, 3) := by decide +kernel
theorem dL_law_902 : decode cL_law 902 = .ok (.if_icmp .eq 163, 3) := by decide +kernel
theorem dL_law_905 : decode cL_law 905 = .ok (.iconst 0, 1) := by decide +kernel
theorem dL_law_906 : decode cL_law 906 = .ok (.ireturn, 1) := by decide +kernel
theorem dL_law_907 : decode cL_law 907 = .ok (.aload_n 1, 1) := by decide +kernel
theorem dL_law_908 : decode cL_law 908 = .ok (.aload_n 0, 1) := by decide +kernel
theorem dL_law_909 : decode cL_law 909 = .ok (.iload_n 3, 1) := by decide +kernel
theorem dL_law_910 : decode cL_law 910 = .ok (.iconst 1, 1) := by decide +kernel
theorem dL_law_911 : decode cL_law 911 = .ok (.iadd, 1) := by decide +kernel
theorem dL_law_912 : decode cL_law 912 = .ok (.iaload, 1) := by decide +kernel
theorem dL_law_913 : decode cL_law 913 = .ok (.aload_n 0, 1) := by decide +kernel
theorem dL_law_914 : decode cL_law 914 = .ok (.iload_n 3, 1) := by decide +kernel
theorem dL_law_915 : decode cL_law 915 = .ok (.iconst 2, 1) := by decide +kernel
theorem dL_law_916 : decode cL_law 916 = .ok (.iadd, 1) := by decide +kernel
theorem dL_law_917 : decode cL_law 917 = .ok (.iaload, 1) := by decide +kernel
theorem dL_law_918 : decode cL_law 918 = .ok (.invokevirtual 118, 3) := by decide +kernel
theorem dL_law_921 : decode cL_law 921 = .ok (.aload_n 2, 1) := by decide +kernel
theorem dL_law_922 : decode cL_law 922 = .ok (.aload_n 0, 1) := by decide +kernel
theorem dL_law_923 : decode cL_law 923 = .ok (.iload_n 3, 1) := by decide +kernel
theorem dL_law_924 : decode cL_law 924 = .ok (.iconst 1, 1) := by decide +kernel
theorem dL_law_925 : decode cL_law 925 = .ok (.iadd, 1) := by decide +kernel
theorem dL_law_926 : decode cL_law 926 = .ok (.iaload, 1) := by decide +kernel
theorem dL_law_927 : decode cL_law 927 = .ok (.aload_n 0, 1) := by decide +kernel
theorem dL_law_928 : decode cL_law 928 = .ok (.iload_n 3, 1) := by decide +kernel
theorem dL_law_929 : decode cL_law 929 = .ok (.iconst 2, 1) := by decide +kernel
theorem dL_law_930 : decode cL_law 930 = .ok (.iadd, 1) := by decide +kernel
theorem dL_law_931 : decode cL_law 931 = .ok (.iaload, 1) := by decide +kernel
theorem dL_law_932 : decode cL_law 932 = .ok (.invokevirtual 121, 3) := by decide +kernel
theorem dL_law_935 : decode cL_law 935 = .ok (.if_icmp .eq 130, 3) := by decide +kernel
theorem dL_law_938 : decode cL_law 938 = .ok (.iconst 0, 1) := by decide +kernel
theorem dL_law_939 : decode cL_law 939 = .ok (.ireturn, 1) := by decide +kernel
theorem dL_law_940 : decode cL_law 940 = .ok (.aload_n 1, 1) := by decide +kernel
theorem dL_law_941 : decode cL_law 941 = .ok (.aload_n 0, 1) := by decide +kernel
theorem dL_law_942 : decode cL_law 942 = .ok (.iload_n 3, 1) := by decide +kernel
theorem dL_law_943 : decode cL_law 943 = .ok (.iconst 1, 1) := by decide +kernel
theorem dL_law_944 : decode cL_law 944 = .ok (.iadd, 1) := by decide +kernel
theorem dL_law_945 : decode cL_law 945 = .ok (.iaload, 1) := by decide +kernel
theorem dL_law_946 : decode cL_law 946 = .ok (.aload_n 0, 1) := by decide +kernel
theorem dL_law_947 : decode cL_law 947 = .ok (.iload_n 3, 1) := by decide +kernel
theorem dL_law_948 : decode cL_law 948 = .ok (.iconst 2, 1) := by decide +kernel
theorem dL_law_949 : decode cL_law 949 = .ok (.iadd, 1) := by decide +kernel
theorem dL_law_950 : decode cL_law 950 = .ok (.iaload, 1) := by decide +kernel
theorem dL_law_951 : decode cL_law 951 = .ok (.invokevirtual 122, 3) := by decide +kernel
theorem dL_law_954 : decode cL_law 954 = .ok (.aload_n 2, 1) := by decide +kernel
theorem dL_law_955 : decode cL_law 955 = .ok (.aload_n 0, 1) := by decide +kernel
theorem dL_law_956 : decode cL_law 956 = .ok (.iload_n 3, 1) := by decide +kernel
theorem dL_law_957 : decode cL_law 957 = .ok (.iconst 1, 1) := by decide +kernel
theorem dL_law_958 : decode cL_law 958 = .ok (.iadd, 1) := by decide +kernel
theorem dL_law_959 : decode cL_law 959 = .ok (.iaload, 1) := by decide +kernel
theorem dL_law_960 : decode cL_law 960 = .ok (.aload_n 0, 1) := by decide +kernel
theorem dL_law_961 : decode cL_law 961 = .ok (.iload_n 3, 1) := by decide +kernel
theorem dL_law_962 : decode cL_law 962 = .ok (.iconst 2, 1) := by decide +kernel
theorem dL_law_963 : decode cL_law 963 = .ok (.iadd, 1) := by decide +kernel
theorem dL_law_964 : decode cL_law 964 = .ok (.iaload, 1) := by decide +kernel
theorem dL_law_965 : decode cL_law 965 = .ok (.invokevirtual 125, 3) := by decide +kernel
theorem dL_law_968 : decode cL_law 968 = .ok (.if_icmp .eq 97, 3) := by decide +kernel
theorem dL_law_971 : decode cL_law 971 = .ok (.iconst 0, 1) := by decide +kernel
theorem dL_law_972 : decode cL_law 972 = .ok (.ireturn, 1) := by decide +kernel
theorem dL_law_973 : decode cL_law 973 = .ok (.aload_n 1, 1) := by decide +kernel
theorem dL_law_974 : decode cL_law 974 = .ok (.aload_n 0, 1) := by decide +kernel
theorem dL_law_975 : decode cL_law 975 = .ok (.iload_n 3, 1) := by decide +kernel
theorem dL_law_976 : decode cL_law 976 = .ok (.iconst 1, 1) := by decide +kernel
theorem dL_law_977 : decode cL_law 977 = .ok (.iadd, 1) := by decide +kernel
theorem dL_law_978 : decode cL_law 978 = .ok (.iaload, 1) := by decide +kernel
theorem dL_law_979 : decode cL_law 979 = .ok (.aload_n 0, 1) := by decide +kernel
theorem dL_law_980 : decode cL_law 980 = .ok (.iload_n 3, 1) := by decide +kernel
theorem dL_law_981 : decode cL_law 981 = .ok (.iconst 2, 1) := by decide +kernel
theorem dL_law_982 : decode cL_law 982 = .ok (.iadd, 1) := by decide +kernel
theorem dL_law_983 : decode cL_law 983 = .ok (.iaload, 1) := by decide +kernel
theorem dL_law_984 : decode cL_law 984 = .ok (.aload_n 0, 1) := by decide +kernel
theorem dL_law_985 : decode cL_law 985 = .ok (.iload_n 3, 1) := by decide +kernel
theorem dL_law_986 : decode cL_law 986 = .ok (.iconst 3, 1) := by decide +kernel
theorem dL_law_987 : decode cL_law 987 = .ok (.iadd, 1) := by decide +kernel
theorem dL_law_988 : decode cL_law 988 = .ok (.iaload, 1) := by decide +kernel
theorem dL_law_989 : decode cL_law 989 = .ok (.invokevirtual 126, 3) := by decide +kernel
theorem dL_law_992 : decode cL_law 992 = .ok (.aload_n 2, 1) := by decide +kernel
theorem dL_law_993 : decode cL_law 993 = .ok (.aload_n 0, 1) := by decide +kernel
theorem dL_law_994 : decode cL_law 994 = .ok (.iload_n 3, 1) := by decide +kernel
theorem dL_law_995 : decode cL_law 995 = .ok (.iconst 1, 1) := by decide +kernel
theorem dL_law_996 : decode cL_law 996 = .ok (.iadd, 1) := by decide +kernel
theorem dL_law_997 : decode cL_law 997 = .ok (.iaload, 1) := by decide +kernel
theorem dL_law_998 : decode cL_law 998 = .ok (.aload_n 0, 1) := by decide +kernel
theorem dL_law_999 : decode cL_law 999 = .ok (.iload_n 3, 1) := by decide +kernel
theorem dL_law_1000 : decode cL_law 1000 = .ok (.iconst 2, 1) := by decide +kernel
theorem dL_law_1001 : decode cL_law 1001 = .ok (.iadd, 1) := by decide +kernel
theorem dL_law_1002 : decode cL_law 1002 = .ok (.iaload, 1) := by decide +kernel
theorem dL_law_1003 : decode cL_law 1003 = .ok (.aload_n 0, 1) := by decide +kernel
theorem dL_law_1004 : decode cL_law 1004 = .ok (.iload_n 3, 1) := by decide +kernel
theorem dL_law_1005 : decode cL_law 1005 = .ok (.iconst 3, 1) := by decide +kernel
theorem dL_law_1006 : decode cL_law 1006 = .ok (.iadd, 1) := by decide +kernel
theorem dL_law_1007 : decode cL_law 1007 = .ok (.iaload, 1) := by decide +kernel
theorem dL_law_1008 : decode cL_law 1008 = .ok (.invokevirtual 129, 3) := by decide +kernel
theorem dL_law_1011 : decode cL_law 1011 = .ok (.if_icmp .eq 54, 3) := by decide +kernel
theorem dL_law_1014 : decode cL_law 1014 = .ok (.iconst 0, 1) := by decide +kernel
theorem dL_law_1015 : decode cL_law 1015 = .ok (.ireturn, 1) := by decide +kernel
theorem dL_law_1016 : decode cL_law 1016 = .ok (.aload_n 1, 1) := by decide +kernel
theorem dL_law_1017 : decode cL_law 1017 = .ok (.invokevirtual 130, 3) := by decide +kernel
theorem dL_law_1020 : decode cL_law 1020 = .ok (.aload_n 2, 1) := by decide +kernel
theorem dL_law_1021 : decode cL_law 1021 = .ok (.invokevirtual 133, 3) := by decide +kernel
theorem dL_law_1024 : decode cL_law 1024 = .ok (.if_icmp .eq 41, 3) := by decide +kernel
theorem dL_law_1027 : decode cL_law 1027 = .ok (.iconst 0, 1) := by decide +kernel
theorem dL_law_1028 : decode cL_law 1028 = .ok (.ireturn, 1) := by decide +kernel
theorem dL_law_1029 : decode cL_law 1029 = .ok (.aload_n 1, 1) := by decide +kernel
theorem dL_law_1030 : decode cL_law 1030 = .ok (.invokevirtual 134, 3) := by decide +kernel
theorem dL_law_1033 : decode cL_law 1033 = .ok (.aload_n 2, 1) := by decide +kernel
theorem dL_law_1034 : decode cL_law 1034 = .ok (.invokevirtual 137, 3) := by decide +kernel
theorem dL_law_1037 : decode cL_law 1037 = .ok (.if_icmp .eq 28, 3) := by decide +kernel
theorem dL_law_1040 : decode cL_law 1040 = .ok (.iconst 0, 1) := by decide +kernel
theorem dL_law_1041 : decode cL_law 1041 = .ok (.ireturn, 1) := by decide +kernel
theorem dL_law_1042 : decode cL_law 1042 = .ok (.aload_n 1, 1) := by decide +kernel
theorem dL_law_1043 : decode cL_law 1043 = .ok (.aload_n 0, 1) := by decide +kernel
theorem dL_law_1044 : decode cL_law 1044 = .ok (.iload_n 3, 1) := by decide +kernel
theorem dL_law_1045 : decode cL_law 1045 = .ok (.iconst 1, 1) := by decide +kernel
theorem dL_law_1046 : decode cL_law 1046 = .ok (.iadd, 1) := by decide +kernel
theorem dL_law_1047 : decode cL_law 1047 = .ok (.iaload, 1) := by decide +kernel
theorem dL_law_1048 : decode cL_law 1048 = .ok (.invokevirtual 138, 3) := by decide +kernel
theorem dL_law_1051 : decode cL_law 1051 = .ok (.aload_n 2, 1) := by decide +kernel
theorem dL_law_1052 : decode cL_law 1052 = .ok (.aload_n 0, 1) := by decide +kernel
theorem dL_law_1053 : decode cL_law 1053 = .ok (.iload_n 3, 1) := by decide +kernel
theorem dL_law_1054 : decode cL_law 1054 = .ok (.iconst 1, 1) := by decide +kernel
theorem dL_law_1055 : decode cL_law 1055 = .ok (.iadd, 1) := by decide +kernel
theorem dL_law_1056 : decode cL_law 1056 = .ok (.iaload, 1) := by decide +kernel
theorem dL_law_1057 : decode cL_law 1057 = .ok (.invokevirtual 141, 3) := by decide +kernel
theorem dL_law_1060 : decode cL_law 1060 = .ok (.if_icmp .eq 5, 3) := by decide +kernel
theorem dL_law_1063 : decode cL_law 1063 = .ok (.iconst 0, 1) := by decide +kernel
theorem dL_law_1064 : decode cL_law 1064 = .ok (.ireturn, 1) := by decide +kernel
theorem dL_law_1065 : decode cL_law 1065 = .ok (.iinc 3 5, 3) := by decide +kernel
theorem dL_law_1068 : decode cL_law 1068 = .ok (.goto (-1050), 3) := by decide +kernel
theorem dL_law_1071 : decode cL_law 1071 = .ok (.iconst 1, 1) := by decide +kernel
theorem dL_law_1072 : decode cL_law 1072 = .ok (.ireturn, 1) := by decide +kernel
end
section
theorem zz_look : True := trivial
end
