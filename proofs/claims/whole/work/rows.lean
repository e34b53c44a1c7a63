section
-- ===== PART A: goes FIRST, ahead of the names: the tables' words, and 'selects' of the private methods out of them =====
/-- a private method of a class that the tables say can be made, by its rows of tables_1 -/
def lw_okq (q : MethodName × Nat) : Prop := (q.1.cls ≠ "java/lang/invoke/MethodHandle" ∧ q.1.cls ≠ "java/lang/invoke/VarHandle") ∧ Cond.instantiable q.1.cls q.2 ∈ tables_1 ∧ Cond.privateMethod q.1 ∈ tables_1 ∧ Cond.instanceMethod q.1 ∈ tables_1
theorem lw_p0 : lw_okq (⟨"java/lang/Throwable", "fillInStackTrace", "(I)Ljava/lang/Throwable;"⟩, 6) := ⟨⟨by decide +kernel, by decide +kernel⟩, List.mem_of_getElem? (i := 229) (by decide +kernel), List.mem_of_getElem? (i := 227) (by decide +kernel), List.mem_of_getElem? (i := 228) (by decide +kernel)⟩
theorem lw_p1 : lw_okq (⟨"Quaylock", "requireStack", "(I)V"⟩, 7) := ⟨⟨by decide +kernel, by decide +kernel⟩, List.mem_of_getElem? (i := 18) (by decide +kernel), List.mem_of_getElem? (i := 292) (by decide +kernel), List.mem_of_getElem? (i := 293) (by decide +kernel)⟩
theorem lw_p2 : lw_okq (⟨"Quaylock", "requireBox", "(I)V"⟩, 7) := ⟨⟨by decide +kernel, by decide +kernel⟩, List.mem_of_getElem? (i := 18) (by decide +kernel), List.mem_of_getElem? (i := 378) (by decide +kernel), List.mem_of_getElem? (i := 379) (by decide +kernel)⟩
theorem lw_p3 : lw_okq (⟨"Quaylock", "giveBackIfHeld", "(I)Z"⟩, 7) := ⟨⟨by decide +kernel, by decide +kernel⟩, List.mem_of_getElem? (i := 18) (by decide +kernel), List.mem_of_getElem? (i := 466) (by decide +kernel), List.mem_of_getElem? (i := 467) (by decide +kernel)⟩
theorem lw_p4 : lw_okq (⟨"Quaylock$Gate", "has", "(I)Z"⟩, 5) := ⟨⟨by decide +kernel, by decide +kernel⟩, List.mem_of_getElem? (i := 108) (by decide +kernel), List.mem_of_getElem? (i := 478) (by decide +kernel), List.mem_of_getElem? (i := 479) (by decide +kernel)⟩
theorem lw_p5 : lw_okq (⟨"Quaylock", "makeMove", "(II)V"⟩, 7) := ⟨⟨by decide +kernel, by decide +kernel⟩, List.mem_of_getElem? (i := 18) (by decide +kernel), List.mem_of_getElem? (i := 563) (by decide +kernel), List.mem_of_getElem? (i := 564) (by decide +kernel)⟩
theorem lw_p6 : lw_okq (⟨"Quaylock", "requirePlan", "(I)V"⟩, 7) := ⟨⟨by decide +kernel, by decide +kernel⟩, List.mem_of_getElem? (i := 18) (by decide +kernel), List.mem_of_getElem? (i := 583) (by decide +kernel), List.mem_of_getElem? (i := 584) (by decide +kernel)⟩
theorem lw_p7 : lw_okq (⟨"Quaylock$Heap", "sinkFromTop", "(J)V"⟩, 2) := ⟨⟨by decide +kernel, by decide +kernel⟩, List.mem_of_getElem? (i := 81) (by decide +kernel), List.mem_of_getElem? (i := 611) (by decide +kernel), List.mem_of_getElem? (i := 612) (by decide +kernel)⟩
theorem lw_p8 : lw_okq (⟨"Quaylock$Planner", "layOut", "(J)V"⟩, 4) := ⟨⟨by decide +kernel, by decide +kernel⟩, List.mem_of_getElem? (i := 75) (by decide +kernel), List.mem_of_getElem? (i := 621) (by decide +kernel), List.mem_of_getElem? (i := 622) (by decide +kernel)⟩
theorem lw_p9 : lw_okq (⟨"Quaylock$Planner", "addNextMoves", "(JII)V"⟩, 4) := ⟨⟨by decide +kernel, by decide +kernel⟩, List.mem_of_getElem? (i := 75) (by decide +kernel), List.mem_of_getElem? (i := 640) (by decide +kernel), List.mem_of_getElem? (i := 641) (by decide +kernel)⟩
theorem lw_p10 : lw_okq (⟨"Quaylock", "requirePlannedMove", "(I)V"⟩, 7) := ⟨⟨by decide +kernel, by decide +kernel⟩, List.mem_of_getElem? (i := 18) (by decide +kernel), List.mem_of_getElem? (i := 679) (by decide +kernel), List.mem_of_getElem? (i := 680) (by decide +kernel)⟩
theorem lw_p11 : lw_okq (⟨"Quaylock", "makePlannedMoves", "()V"⟩, 7) := ⟨⟨by decide +kernel, by decide +kernel⟩, List.mem_of_getElem? (i := 18) (by decide +kernel), List.mem_of_getElem? (i := 706) (by decide +kernel), List.mem_of_getElem? (i := 707) (by decide +kernel)⟩
theorem lw_p12 : lw_okq (⟨"Quaylock", "requireLane", "(I)V"⟩, 7) := ⟨⟨by decide +kernel, by decide +kernel⟩, List.mem_of_getElem? (i := 18) (by decide +kernel), List.mem_of_getElem? (i := 717) (by decide +kernel), List.mem_of_getElem? (i := 718) (by decide +kernel)⟩
theorem lw_p13 : lw_okq (⟨"Quaylock", "requireAppointment", "(I)V"⟩, 7) := ⟨⟨by decide +kernel, by decide +kernel⟩, List.mem_of_getElem? (i := 18) (by decide +kernel), List.mem_of_getElem? (i := 745) (by decide +kernel), List.mem_of_getElem? (i := 746) (by decide +kernel)⟩
theorem lw_p14 : lw_okq (⟨"Quaylock", "serve", "(I)I"⟩, 7) := ⟨⟨by decide +kernel, by decide +kernel⟩, List.mem_of_getElem? (i := 18) (by decide +kernel), List.mem_of_getElem? (i := 807) (by decide +kernel), List.mem_of_getElem? (i := 808) (by decide +kernel)⟩
theorem lw_p15 : lw_okq (⟨"QuaylockModel", "fails", "(I)I"⟩, 19) := ⟨⟨by decide +kernel, by decide +kernel⟩, List.mem_of_getElem? (i := 824) (by decide +kernel), List.mem_of_getElem? (i := 900) (by decide +kernel), List.mem_of_getElem? (i := 901) (by decide +kernel)⟩
def lw_privs_1 : List (MethodName × Nat) := [(⟨"java/lang/Throwable", "fillInStackTrace", "(I)Ljava/lang/Throwable;"⟩, 6), (⟨"Quaylock", "requireStack", "(I)V"⟩, 7), (⟨"Quaylock", "requireBox", "(I)V"⟩, 7), (⟨"Quaylock", "giveBackIfHeld", "(I)Z"⟩, 7), (⟨"Quaylock$Gate", "has", "(I)Z"⟩, 5), (⟨"Quaylock", "makeMove", "(II)V"⟩, 7), (⟨"Quaylock", "requirePlan", "(I)V"⟩, 7), (⟨"Quaylock$Heap", "sinkFromTop", "(J)V"⟩, 2), (⟨"Quaylock$Planner", "layOut", "(J)V"⟩, 4), (⟨"Quaylock$Planner", "addNextMoves", "(JII)V"⟩, 4), (⟨"Quaylock", "requirePlannedMove", "(I)V"⟩, 7), (⟨"Quaylock", "makePlannedMoves", "()V"⟩, 7), (⟨"Quaylock", "requireLane", "(I)V"⟩, 7), (⟨"Quaylock", "requireAppointment", "(I)V"⟩, 7), (⟨"Quaylock", "serve", "(I)I"⟩, 7), (⟨"QuaylockModel", "fails", "(I)I"⟩, 19)]
theorem lw_r1 : ∀ q ∈ lw_privs_1, lw_okq q := List.forall_mem_cons.mpr ⟨lw_p0, List.forall_mem_cons.mpr ⟨lw_p1, List.forall_mem_cons.mpr ⟨lw_p2, List.forall_mem_cons.mpr ⟨lw_p3, List.forall_mem_cons.mpr ⟨lw_p4, List.forall_mem_cons.mpr ⟨lw_p5, List.forall_mem_cons.mpr ⟨lw_p6, List.forall_mem_cons.mpr ⟨lw_p7, List.forall_mem_cons.mpr ⟨lw_p8, List.forall_mem_cons.mpr ⟨lw_p9, List.forall_mem_cons.mpr ⟨lw_p10, List.forall_mem_cons.mpr ⟨lw_p11, List.forall_mem_cons.mpr ⟨lw_p12, List.forall_mem_cons.mpr ⟨lw_p13, List.forall_mem_cons.mpr ⟨lw_p14, List.forall_mem_cons.mpr ⟨lw_p15, fun _ h => absurd h List.not_mem_nil⟩⟩⟩⟩⟩⟩⟩⟩⟩⟩⟩⟩⟩⟩⟩⟩
theorem lw_p16 : lw_okq (⟨"QuaylockModel", "isStack", "(I)Z"⟩, 19) := ⟨⟨by decide +kernel, by decide +kernel⟩, List.mem_of_getElem? (i := 824) (by decide +kernel), List.mem_of_getElem? (i := 908) (by decide +kernel), List.mem_of_getElem? (i := 909) (by decide +kernel)⟩
theorem lw_p17 : lw_okq (⟨"QuaylockModel", "takes", "(III)Z"⟩, 19) := ⟨⟨by decide +kernel, by decide +kernel⟩, List.mem_of_getElem? (i := 824) (by decide +kernel), List.mem_of_getElem? (i := 912) (by decide +kernel), List.mem_of_getElem? (i := 913) (by decide +kernel)⟩
theorem lw_p18 : lw_okq (⟨"QuaylockModel", "topOf", "(II)I"⟩, 19) := ⟨⟨by decide +kernel, by decide +kernel⟩, List.mem_of_getElem? (i := 824) (by decide +kernel), List.mem_of_getElem? (i := 916) (by decide +kernel), List.mem_of_getElem? (i := 917) (by decide +kernel)⟩
theorem lw_p19 : lw_okq (⟨"QuaylockModel", "insideNow", "()I"⟩, 19) := ⟨⟨by decide +kernel, by decide +kernel⟩, List.mem_of_getElem? (i := 824) (by decide +kernel), List.mem_of_getElem? (i := 920) (by decide +kernel), List.mem_of_getElem? (i := 921) (by decide +kernel)⟩
theorem lw_p20 : lw_okq (⟨"QuaylockModel", "lays", "(III)V"⟩, 19) := ⟨⟨by decide +kernel, by decide +kernel⟩, List.mem_of_getElem? (i := 824) (by decide +kernel), List.mem_of_getElem? (i := 924) (by decide +kernel), List.mem_of_getElem? (i := 925) (by decide +kernel)⟩
theorem lw_p21 : lw_okq (⟨"QuaylockModel", "isBox", "(I)Z"⟩, 19) := ⟨⟨by decide +kernel, by decide +kernel⟩, List.mem_of_getElem? (i := 824) (by decide +kernel), List.mem_of_getElem? (i := 936) (by decide +kernel), List.mem_of_getElem? (i := 937) (by decide +kernel)⟩
theorem lw_p22 : lw_okq (⟨"QuaylockModel", "placeOf", "(II)I"⟩, 19) := ⟨⟨by decide +kernel, by decide +kernel⟩, List.mem_of_getElem? (i := 824) (by decide +kernel), List.mem_of_getElem? (i := 948) (by decide +kernel), List.mem_of_getElem? (i := 949) (by decide +kernel)⟩
theorem lw_p23 : lw_okq (⟨"QuaylockModel", "levelOf", "(II)I"⟩, 19) := ⟨⟨by decide +kernel, by decide +kernel⟩, List.mem_of_getElem? (i := 824) (by decide +kernel), List.mem_of_getElem? (i := 956) (by decide +kernel), List.mem_of_getElem? (i := 957) (by decide +kernel)⟩
theorem lw_p24 : lw_okq (⟨"QuaylockModel", "aboveOf", "(I)I"⟩, 19) := ⟨⟨by decide +kernel, by decide +kernel⟩, List.mem_of_getElem? (i := 824) (by decide +kernel), List.mem_of_getElem? (i := 964) (by decide +kernel), List.mem_of_getElem? (i := 965) (by decide +kernel)⟩
theorem lw_p25 : lw_okq (⟨"QuaylockModel", "appointmentIn", "(I)I"⟩, 19) := ⟨⟨by decide +kernel, by decide +kernel⟩, List.mem_of_getElem? (i := 824) (by decide +kernel), List.mem_of_getElem? (i := 980) (by decide +kernel), List.mem_of_getElem? (i := 981) (by decide +kernel)⟩
theorem lw_p26 : lw_okq (⟨"QuaylockModel", "isPinned", "(I)Z"⟩, 19) := ⟨⟨by decide +kernel, by decide +kernel⟩, List.mem_of_getElem? (i := 824) (by decide +kernel), List.mem_of_getElem? (i := 1000) (by decide +kernel), List.mem_of_getElem? (i := 1001) (by decide +kernel)⟩
theorem lw_p27 : lw_okq (⟨"QuaylockModel", "isTop", "(II)Z"⟩, 19) := ⟨⟨by decide +kernel, by decide +kernel⟩, List.mem_of_getElem? (i := 824) (by decide +kernel), List.mem_of_getElem? (i := 1008) (by decide +kernel), List.mem_of_getElem? (i := 1009) (by decide +kernel)⟩
theorem lw_p28 : lw_okq (⟨"QuaylockModel", "canMove", "(III)Z"⟩, 19) := ⟨⟨by decide +kernel, by decide +kernel⟩, List.mem_of_getElem? (i := 824) (by decide +kernel), List.mem_of_getElem? (i := 1016) (by decide +kernel), List.mem_of_getElem? (i := 1017) (by decide +kernel)⟩
theorem lw_p29 : lw_okq (⟨"QuaylockModel", "moves", "(III)V"⟩, 19) := ⟨⟨by decide +kernel, by decide +kernel⟩, List.mem_of_getElem? (i := 824) (by decide +kernel), List.mem_of_getElem? (i := 1020) (by decide +kernel), List.mem_of_getElem? (i := 1021) (by decide +kernel)⟩
theorem lw_p30 : lw_okq (⟨"QuaylockModel", "planned", "(I)I"⟩, 19) := ⟨⟨by decide +kernel, by decide +kernel⟩, List.mem_of_getElem? (i := 824) (by decide +kernel), List.mem_of_getElem? (i := 1028) (by decide +kernel), List.mem_of_getElem? (i := 1029) (by decide +kernel)⟩
theorem lw_p31 : lw_okq (⟨"QuaylockModel", "plans", "(I)I"⟩, 19) := ⟨⟨by decide +kernel, by decide +kernel⟩, List.mem_of_getElem? (i := 824) (by decide +kernel), List.mem_of_getElem? (i := 1032) (by decide +kernel), List.mem_of_getElem? (i := 1033) (by decide +kernel)⟩
def lw_privs_2 : List (MethodName × Nat) := [(⟨"QuaylockModel", "isStack", "(I)Z"⟩, 19), (⟨"QuaylockModel", "takes", "(III)Z"⟩, 19), (⟨"QuaylockModel", "topOf", "(II)I"⟩, 19), (⟨"QuaylockModel", "insideNow", "()I"⟩, 19), (⟨"QuaylockModel", "lays", "(III)V"⟩, 19), (⟨"QuaylockModel", "isBox", "(I)Z"⟩, 19), (⟨"QuaylockModel", "placeOf", "(II)I"⟩, 19), (⟨"QuaylockModel", "levelOf", "(II)I"⟩, 19), (⟨"QuaylockModel", "aboveOf", "(I)I"⟩, 19), (⟨"QuaylockModel", "appointmentIn", "(I)I"⟩, 19), (⟨"QuaylockModel", "isPinned", "(I)Z"⟩, 19), (⟨"QuaylockModel", "isTop", "(II)Z"⟩, 19), (⟨"QuaylockModel", "canMove", "(III)Z"⟩, 19), (⟨"QuaylockModel", "moves", "(III)V"⟩, 19), (⟨"QuaylockModel", "planned", "(I)I"⟩, 19), (⟨"QuaylockModel", "plans", "(I)I"⟩, 19)]
theorem lw_r2 : ∀ q ∈ lw_privs_2, lw_okq q := List.forall_mem_cons.mpr ⟨lw_p16, List.forall_mem_cons.mpr ⟨lw_p17, List.forall_mem_cons.mpr ⟨lw_p18, List.forall_mem_cons.mpr ⟨lw_p19, List.forall_mem_cons.mpr ⟨lw_p20, List.forall_mem_cons.mpr ⟨lw_p21, List.forall_mem_cons.mpr ⟨lw_p22, List.forall_mem_cons.mpr ⟨lw_p23, List.forall_mem_cons.mpr ⟨lw_p24, List.forall_mem_cons.mpr ⟨lw_p25, List.forall_mem_cons.mpr ⟨lw_p26, List.forall_mem_cons.mpr ⟨lw_p27, List.forall_mem_cons.mpr ⟨lw_p28, List.forall_mem_cons.mpr ⟨lw_p29, List.forall_mem_cons.mpr ⟨lw_p30, List.forall_mem_cons.mpr ⟨lw_p31, fun _ h => absurd h List.not_mem_nil⟩⟩⟩⟩⟩⟩⟩⟩⟩⟩⟩⟩⟩⟩⟩⟩
theorem lw_p32 : lw_okq (⟨"QuaylockModel", "finds", "(II)Z"⟩, 19) := ⟨⟨by decide +kernel, by decide +kernel⟩, List.mem_of_getElem? (i := 824) (by decide +kernel), List.mem_of_getElem? (i := 1036) (by decide +kernel), List.mem_of_getElem? (i := 1037) (by decide +kernel)⟩
theorem lw_p33 : lw_okq (⟨"QuaylockModel", "nextMove", "(III)I"⟩, 19) := ⟨⟨by decide +kernel, by decide +kernel⟩, List.mem_of_getElem? (i := 824) (by decide +kernel), List.mem_of_getElem? (i := 1040) (by decide +kernel), List.mem_of_getElem? (i := 1041) (by decide +kernel)⟩
theorem lw_p34 : lw_okq (⟨"QuaylockModel", "copies", "(II)V"⟩, 19) := ⟨⟨by decide +kernel, by decide +kernel⟩, List.mem_of_getElem? (i := 824) (by decide +kernel), List.mem_of_getElem? (i := 1044) (by decide +kernel), List.mem_of_getElem? (i := 1045) (by decide +kernel)⟩
theorem lw_p35 : lw_okq (⟨"QuaylockModel", "plannedAt", "(II)I"⟩, 19) := ⟨⟨by decide +kernel, by decide +kernel⟩, List.mem_of_getElem? (i := 824) (by decide +kernel), List.mem_of_getElem? (i := 1056) (by decide +kernel), List.mem_of_getElem? (i := 1057) (by decide +kernel)⟩
theorem lw_p36 : lw_okq (⟨"QuaylockModel", "makes", "(I)V"⟩, 19) := ⟨⟨by decide +kernel, by decide +kernel⟩, List.mem_of_getElem? (i := 824) (by decide +kernel), List.mem_of_getElem? (i := 1068) (by decide +kernel), List.mem_of_getElem? (i := 1069) (by decide +kernel)⟩
theorem lw_p37 : lw_okq (⟨"QuaylockModel", "isHeldIn", "(II)Z"⟩, 19) := ⟨⟨by decide +kernel, by decide +kernel⟩, List.mem_of_getElem? (i := 824) (by decide +kernel), List.mem_of_getElem? (i := 1080) (by decide +kernel), List.mem_of_getElem? (i := 1081) (by decide +kernel)⟩
theorem lw_p38 : lw_okq (⟨"QuaylockModel", "bookedIn", "(II)I"⟩, 19) := ⟨⟨by decide +kernel, by decide +kernel⟩, List.mem_of_getElem? (i := 824) (by decide +kernel), List.mem_of_getElem? (i := 1084) (by decide +kernel), List.mem_of_getElem? (i := 1085) (by decide +kernel)⟩
theorem lw_p39 : lw_okq (⟨"QuaylockModel", "counted", "(C)I"⟩, 19) := ⟨⟨by decide +kernel, by decide +kernel⟩, List.mem_of_getElem? (i := 824) (by decide +kernel), List.mem_of_getElem? (i := 1092) (by decide +kernel), List.mem_of_getElem? (i := 1093) (by decide +kernel)⟩
theorem lw_p40 : lw_okq (⟨"QuaylockModel", "leaves", "(I)Z"⟩, 19) := ⟨⟨by decide +kernel, by decide +kernel⟩, List.mem_of_getElem? (i := 824) (by decide +kernel), List.mem_of_getElem? (i := 1116) (by decide +kernel), List.mem_of_getElem? (i := 1117) (by decide +kernel)⟩
def lw_privs_3 : List (MethodName × Nat) := [(⟨"QuaylockModel", "finds", "(II)Z"⟩, 19), (⟨"QuaylockModel", "nextMove", "(III)I"⟩, 19), (⟨"QuaylockModel", "copies", "(II)V"⟩, 19), (⟨"QuaylockModel", "plannedAt", "(II)I"⟩, 19), (⟨"QuaylockModel", "makes", "(I)V"⟩, 19), (⟨"QuaylockModel", "isHeldIn", "(II)Z"⟩, 19), (⟨"QuaylockModel", "bookedIn", "(II)I"⟩, 19), (⟨"QuaylockModel", "counted", "(C)I"⟩, 19), (⟨"QuaylockModel", "leaves", "(I)Z"⟩, 19)]
theorem lw_r3 : ∀ q ∈ lw_privs_3, lw_okq q := List.forall_mem_cons.mpr ⟨lw_p32, List.forall_mem_cons.mpr ⟨lw_p33, List.forall_mem_cons.mpr ⟨lw_p34, List.forall_mem_cons.mpr ⟨lw_p35, List.forall_mem_cons.mpr ⟨lw_p36, List.forall_mem_cons.mpr ⟨lw_p37, List.forall_mem_cons.mpr ⟨lw_p38, List.forall_mem_cons.mpr ⟨lw_p39, List.forall_mem_cons.mpr ⟨lw_p40, fun _ h => absurd h List.not_mem_nil⟩⟩⟩⟩⟩⟩⟩⟩⟩
def lw_privs : List (MethodName × Nat) := lw_privs_1 ++ (lw_privs_2 ++ (lw_privs_3))
def lw_tbl : List Cond := k2_sels lw_privs ++ tables_1
theorem lw_privs_ok : ∀ q ∈ lw_privs, lw_okq q := by
  show ∀ q ∈ lw_privs_1 ++ (lw_privs_2 ++ (lw_privs_3)), lw_okq q
  exact List.forall_mem_append.mpr ⟨lw_r1, List.forall_mem_append.mpr ⟨lw_r2, lw_r3⟩⟩
/-- the streams that the claim lets the run draw from -/
abbrev lw_cs : List Choice := [Jvm.Choice.named "NaN.bits"]
theorem lw_bits : nanBits ∈ lw_cs := by first | decide | exact List.mem_cons_self | simp [lw_cs, nanBits]
-- ===== end of PART A; then your names; then what follows =====
/-! ===== BEGIN words of one list among another's, by their places ===== -/
theorem goodIn_r {big : List Cond} (ws : List Cond) (ps : List Nat) (hp : ws = ps.filterMap (fun i => big[i]?)) (h : ws.all goodWord = true) : GoodIn big ws := by
  intro w hw
  have h1 := List.all_eq_true.mp h w hw
  rw [hp] at hw
  obtain ⟨i, -, hi⟩ := List.mem_filterMap.mp hw
  have hm : w ∈ big := by first | exact List.mem_of_getElem? hi | exact List.getElem?_mem hi
  exact ⟨hm, good_of_word h1⟩
theorem goodIn_app {big a b : List Cond} (ha : GoodIn big a) (hb : GoodIn big b) : GoodIn big (a ++ b) := fun w h => (List.mem_append.mp h).elim (ha w) (hb w)
theorem goodIn_ca {big a b : List Cond} {c : Cond} (ha : GoodIn big (c :: a)) (hb : GoodIn big b) : GoodIn big (c :: (a ++ b)) := fun w h => (List.mem_cons.mp h).elim (fun e => ha w (List.mem_cons.mpr (Or.inl e))) (fun h => (List.mem_append.mp h).elim (fun h => ha w (List.mem_cons.mpr (Or.inr h))) (hb w))
theorem goodIn_sub {big ws : List Cond} (hm : ∀ w ∈ ws, w ∈ big) (h : ws.all goodWord = true) : GoodIn big ws := fun w hw => ⟨hm w hw, good_of_word (List.all_eq_true.mp h w hw)⟩
/-! ===== END ===== -/

/-! ===== BEGIN exceptions that leave a method, and their catching by the caller (launches without stack traces) ===== -/
section VXA
/-! The laws vx_back, vx_callV, vx_callS, vx_callSW, vx_throw0, vx_throwS follow proofs of the library, with one case more: JvmDerived/Free/Laws.lean (Back.of_free), Shelf42/LK1.lean (callV, callS), Shelf/KitTraced.lean (throwNew0V, throwNewS). -/
/-- where a method has thrown q: the class by its name, the cell, what was written, the world -/
def vx_T (XC : String → State → State → Prop) (st : State) (q : Addr) (t : State) (mc ms : Nat) (free : Addr → Prop) : Prop :=
  ∃ (E : String) (ce : Cell) (L : List Loc), XC E st t ∧ t.heap[q]? = some ce ∧ ce.vm = .none ∧ st.vm.findClass E = some ce.cls ∧ st.WarmedH t.vm ∧ st.sameButNew ({ t with vm := st.vm } : State) L mc ms ∧ ∀ z ∈ L, free z.base
def vx_Q (Qc : Array Value → State → Outcome → State → Prop) (XC : String → State → State → Prop) (mc ms : Nat) (free : Addr → Prop) : Array Value → State → Outcome → State → Prop := fun a st o t =>
  (Qc a st o t ∧ ∃ L, FrameEnd st o t L mc ms ∧ ∀ q ∈ L, free q.base) ∨ ∃ q, o = .threw q ∧ vx_T XC st q t mc ms free
/-- a callee that returns or throws -/
def vx_Met (l : Launch) (y : MethodName) (ws : List Cond) (rm : Room) (Pc : Array Value → State → Prop) (Qc : Array Value → State → Outcome → State → Prop) (XC : String → State → State → Prop) (mc ms : Nat) (free : Addr → Prop) : Prop :=
  MetFree l y (headSpec ws rm) Pc (fun _ _ _ _ _ => True) (vx_Q Qc XC mc ms free)
def vx_Post (XC : String → State → State → Prop) (mc ms : Nat) (free : Addr → Prop) : Pt → Array Value → Addr → Pt → Prop := fun A a q B =>
  ∃ (g : JFrame) (mk : MethodId) (t : State) (L : List Loc) (E : String) (ce : Cell), B.U.heap = t.heap ∧ B.U.vm = t.vm ∧ XC E (A.U.calling g mk a) t ∧ t.heap[q]? = some ce ∧ ce.vm = .none ∧ A.U.vm.findClass E = some ce.cls ∧ B.locs = A.locs ++ L ∧ (∀ z ∈ L, free z.base) ∧ B.cells = A.cells + mc ∧ B.slots = A.slots + ms
def vx_Back (l : Launch) (R : Room) (p : Program) (e : Env) (below : List Frame) (s : State) (sargs : Array Value) (y : MethodName) (len W9 : Nat)
    (Pre : Pt → Array Value → Prop) (Post : Pt → Array Value → Option Value → Pt → Prop) (PostX : Pt → Array Value → Addr → Pt → Prop) : Prop :=
  ∀ (m : MethodId) (meth : Method) (c : Code) (A : Pt) (g : JFrame) (ig : Instr) (mk : MethodId) (a : Array Value),
    Stand p l e R s m sargs below meth c A.U A.locs A.cells A.slots → g.method = m → g.locals.size = c.maxLocals → decode c.code g.pc = .ok (ig, len) →
    2 * g.monitorRoom + (g.stack.map fun v => v.category).sum ≤ W9 → A.U.methodNamed? y = some mk → Pre A a →
    (∃ (v : Option Value) (B : Pt), Stand p l e R s m sargs below meth c B.U B.locs B.cells B.slots ∧ Post A a v B ∧
      Steps p.tables e below (doInvoke e (A.U.setTop g) [] mk a).1 (B.U.setTop { g with pc := g.pc + len, stack := v.toList ++ g.stack })) ∨
    (∃ (q : Addr) (B : Pt), Stand p l e R s m sargs below meth c B.U B.locs B.cells B.slots ∧ PostX A a q B ∧
      Steps p.tables e below (doInvoke e (A.U.setTop g) [] mk a).1 ((B.U.setTop g).pushFrame (.throwing q)))
section Payer
variable {l : Launch} {R : Room} {p : Program} {e : Env} {below : List Frame} {s : State} {sargs : Array Value} {y : MethodName} {len W9 : Nat}
theorem vx_back {ws : List Cond} {rm : Room} {Pc : Array Value → State → Prop} {Qc : Array Value → State → Outcome → State → Prop} {XC : String → State → State → Prop} {mc ms : Nat} {free : Addr → Prop} {bytes : ByteArray} {maxL : Nat} {ret : Option FieldType}
    (hM : vx_Met l y ws rm Pc Qc XC mc ms free) (hblind : FrameBlind Pc) (hrc : rm.cells = mc) (hrs : rm.slots = ms)
    (hframes : rm.frames + 1 ≤ R.frames) (hlocals : W9 + (maxL + 11) + rm.locals ≤ R.locals)
    (hws : ∀ w ∈ ws, ∀ a' U, s.WarmedH U.vm → w.before a' U = true) (hcode : Cond.code y bytes maxL ret ∈ ws) (hinit : ∀ a' U, s.WarmedH U.vm → (Cond.initialized y.cls).before a' U = true) :
    vx_Back l R p e below s sargs y len W9 (PreOf R mc ms Pc) (PostOf Qc mc ms free) (vx_Post XC mc ms free) := by
  intro m meth c A g ig mk a X hg hsize hdg hW hn hp
  have h1 : (headSpec ws rm).pre.before a A.U = true := atoms_intro fun w hw => hws w hw _ _ X.warmed
  have h2 : (Cond.code y bytes maxL ret).before a A.U = true := hws _ hcode _ _ X.warmed
  have h3 : (Cond.initialized y.cls).before a A.U = true := hinit _ _ X.warmed
  have h4 : A.cells + (headSpec ws rm).room.cells ≤ R.cells := by rw [show (headSpec ws rm).room.cells = mc from hrc]; exact hp.1
  have h5 : A.slots + (headSpec ws rm).room.slots ≤ R.slots := by rw [show (headSpec ws rm).room.slots = ms from hrs]; exact hp.2.1
  have hPc : Pc a (A.U.calling g mk a) := hblind _ _ _ _ hp.2.2
  obtain ⟨U, Ls, c0, s0⟩ := A
  dsimp only [Pt.U, Pt.locs, Pt.cells, Pt.slots] at h1 h2 h3 h4 h5 X hn hPc ⊢
  obtain ⟨methY, cY, hmY, hcY, -, hlY, -, -, -, -⟩ := Cond.code_spec hn h2
  obtain ⟨kY, hkY, -⟩ := className_of_methodNamed hn
  have hinitY : kY.init = .initialized := Cond.initialized_spec (findClass_of_methodNamed hn) hkY h3
  have h : At U g.method c below := by rw [hg]; exact X.here
  have hlocals9 : W9 + (maxL + 11) + (headSpec ws rm).room.locals ≤ R.locals := hlocals
  have happ : (headSpec ws rm).appliesLoose y e.platform (U.calling g mk a) = true :=
    Spec.appliesLoose_calling (g := g) h hdg hn hkY hinitY
      (X.room_calling (g := g) (R' := (headSpec ws rm).room) hsize hmY hcY hframes (by rw [hlY]; omega) h4 h5) h1
  obtain ⟨mid, hmid⟩ := h.above
  have hfr : (U.setTop g).frames = (.java g :: mid) ++ below := by rw [State.frames_setTop' g h.top, hmid]; rfl
  obtain ⟨o, s₂, hsteps, -, hend, hq⟩ := Steps.callFree hM p X.admits X.cas X.clock (acts := []) hfr happ hPc trivial
  have hq' : vx_Q Qc XC mc ms free a (U.calling g mk a) o s₂ := hq
  rw [State.frames_setTop' g h.top] at hend
  obtain ⟨g₀, hg0⟩ := Option.isSome_iff_exists.mp h.top
  obtain ⟨r, hr⟩ := State.topJava?_eq_some.mp hg0
  have hr' : (({ U with heap := s₂.heap, slotsUsed := s₂.slotsUsed } : State).setVm s₂.vm).frames = .java g₀ :: r := hr
  rcases hq' with ⟨hqc, L, hfe, hL⟩ | ⟨q, rfl, E, ce, L, hx, hce, hcv, hcl, hW₂, hsm, hL⟩
  · obtain ⟨⟨v, rfl⟩, hW₂, e2, q2, q3, q4, q5, q6⟩ := id hfe
    have e3 : s₂ = ({ (U.calling g mk a).setFrames s₂.frames with heap := s₂.heap, slotsUsed := s₂.slotsUsed } : State).setVm s₂.vm := by
      have : s₂ = ({ s₂ with vm := (U.calling g mk a).vm } : State).setVm s₂.vm := rfl
      rw [e2] at this
      exact this
    obtain ⟨c₂, i₂, len₂, hc₂, hd₂, hf₂⟩ := hend
    have hW' : U.WarmedH s₂.vm := hW₂
    have hcc : c₂ = c := by
      have h1 : s₂.code? g.method = U.code? g.method := by
        rw [State.code?_eq, State.code?_eq, hW'.alike.method?]
      exact Option.some.inj (hc₂.symm.trans (h1.trans h.code))
    subst hcc
    have hlen : len₂ = len := by rw [hdg] at hd₂; cases hd₂; rfl
    subst hlen
    have hs₂ : s₂ = (({ U with heap := s₂.heap, slotsUsed := s₂.slotsUsed } : State).setVm s₂.vm).setTop { g with pc := g.pc + len₂, stack := v.toList ++ g.stack } := by
      refine e3.trans ?_
      rw [hf₂, State.calling_eq h.top, State.setFrames_setFrames, State.setTop_of_frames _ hr', hr]
      rfl
    have hsame : U.sameButNew ({ U with heap := s₂.heap, slotsUsed := s₂.slotsUsed } : State) L mc ms := by
      refine ⟨?_, q2, q3, q4, q5, q6⟩
      obtain ⟨t, ht, -⟩ := State.frames_cons hr
      show ({ U with heap := s₂.heap, slotsUsed := s₂.slotsUsed } : State) = { U.setFrames U.frames with heap := s₂.heap, slotsUsed := s₂.slotsUsed }
      rw [State.setFrames_self ht]
    subst hg
    refine Or.inl ⟨v, ⟨(({ U with heap := s₂.heap, slotsUsed := s₂.slotsUsed } : State).setVm s₂.vm), Ls ++ L, c0 + mc, s0 + ms⟩,
      ⟨X.admits, X.cas, X.clock, X.frames, X.room, X.hears, X.method, X.code, (X.here.setHeapUsed s₂.heap s₂.slotsUsed).setVm hW'.alike, X.tail, State.WarmedH.trans X.warmed hW', X.limits, X.bytes, X.same.trans (hsame.setVm s.vm)⟩,
      ⟨g, mk, s₂, L, rfl, rfl, hqc, rfl, hL, rfl, rfl⟩, ?_⟩
    show Steps p.tables e below _ ((({ U with heap := s₂.heap, slotsUsed := s₂.slotsUsed } : State).setVm s₂.vm).setTop { g with pc := g.pc + len₂, stack := v.toList ++ g.stack })
    rw [← hs₂]
    exact hsteps
  · obtain ⟨e2, q2, q3, q4, q5, q6⟩ := id hsm
    have e3 : s₂ = ({ (U.calling g mk a).setFrames s₂.frames with heap := s₂.heap, slotsUsed := s₂.slotsUsed } : State).setVm s₂.vm := by
      have : s₂ = ({ s₂ with vm := (U.calling g mk a).vm } : State).setVm s₂.vm := rfl
      rw [e2] at this
      exact this
    have hf₂ : s₂.frames = .throwing q :: .java g :: U.frames.tail := hend
    have hW' : U.WarmedH s₂.vm := hW₂
    have hs₂ : s₂ = ((({ U with heap := s₂.heap, slotsUsed := s₂.slotsUsed } : State).setVm s₂.vm).setTop g).pushFrame (.throwing q) := by
      refine e3.trans ?_
      rw [hf₂, State.calling_eq h.top, State.setFrames_setFrames, State.pushFrame, State.frames_setTop _ hr', State.setTop_of_frames _ hr', State.setFrames_setFrames, hr]
      rfl
    have hsame : U.sameButNew ({ U with heap := s₂.heap, slotsUsed := s₂.slotsUsed } : State) L mc ms := by
      refine ⟨?_, q2, q3, q4, q5, q6⟩
      obtain ⟨t, ht, -⟩ := State.frames_cons hr
      show ({ U with heap := s₂.heap, slotsUsed := s₂.slotsUsed } : State) = { U.setFrames U.frames with heap := s₂.heap, slotsUsed := s₂.slotsUsed }
      rw [State.setFrames_self ht]
    subst hg
    refine Or.inr ⟨q, ⟨(({ U with heap := s₂.heap, slotsUsed := s₂.slotsUsed } : State).setVm s₂.vm), Ls ++ L, c0 + mc, s0 + ms⟩,
      ⟨X.admits, X.cas, X.clock, X.frames, X.room, X.hears, X.method, X.code, (X.here.setHeapUsed s₂.heap s₂.slotsUsed).setVm hW'.alike, X.tail, State.WarmedH.trans X.warmed hW', X.limits, X.bytes, X.same.trans (hsame.setVm s.vm)⟩,
      ⟨g, mk, s₂, L, E, ce, rfl, rfl, hx, hce, hcv, hcl, rfl, hL, rfl, rfl⟩, ?_⟩
    show Steps p.tables e below _ (((({ U with heap := s₂.heap, slotsUsed := s₂.slotsUsed } : State).setVm s₂.vm).setTop g).pushFrame (.throwing q))
    rw [← hs₂]
    exact hsteps
end Payer
section Calls
variable {p : Program} {l : Launch} {e : Env} {R : Room} {s : State} {m : MethodId} {args : Array Value} {below : List Frame} {meth : Method} {c : Code} {T : State} {locs : List Loc} {cells slots : Nat}
theorem vx_callV (X : Stand p l e R s m args below meth c T locs cells slots) (hexec : p.tables.exec = Jvm.exec) {own C : String} {index : Nat} {y : MethodName} {bytes : ByteArray} {maxL : Nat} {ret : Option FieldType}
    (hown : s.vm.findClass own = some m.cls) (hlink : (Cond.methodLink own index y).before args s = true) (hinst : (Cond.instanceMethod y).before args s = true) (hsel : (Cond.selects C y y).before args s = true)
    (hcode : (Cond.code y bytes maxL ret).before args s = true) (hy : y.cls ≠ "java/lang/invoke/MethodHandle" ∧ y.cls ≠ "java/lang/invoke/VarHandle")
    {W9 : Nat} {Pre : Pt → Array Value → Prop} {Post : Pt → Array Value → Option Value → Pt → Prop} {PostX : Pt → Array Value → Addr → Pt → Prop} (hK : vx_Back l R p e below s args y 3 W9 Pre Post PostX)
    {b : Addr} {cellB : Cell} (hcell : T.heap[b]? = some cellB) (hobj : cellB.vm.isStatics = false) (hcls : s.vm.findClass C = some cellB.cls)
    {g : JFrame} (hg : g.method = m) (hsize : g.locals.size = c.maxLocals) {argsL rest : List Value} (hlen : ∀ sig, parseMethodDescriptor y.desc = some sig → argsL.length = sig.parameters.length)
    (hstack : g.stack = argsL.reverse ++ .ref b :: rest) (hW : 2 * g.monitorRoom + (rest.map fun v => v.category).sum ≤ W9) (hdg : decode c.code g.pc = .ok (.invokevirtual index, 3))
    (hpre : ∀ vm₁, s.WarmedH vm₁ → Pre ⟨T.setVm vm₁, locs, cells, slots⟩ (Value.ref b :: argsL).toArray) :
    (∃ (v : Option Value) (vm₁ : Vm) (B : Pt), s.WarmedH vm₁ ∧ Stand p l e R s m args below meth c B.U B.locs B.cells B.slots ∧ Post ⟨T.setVm vm₁, locs, cells, slots⟩ (Value.ref b :: argsL).toArray v B ∧
      ∀ target, Steps p.tables e below (B.U.setTop { g with pc := g.pc + 3, stack := v.toList ++ rest }) target → Steps p.tables e below (T.setTop g) target) ∨
    (∃ (q : Addr) (vm₁ : Vm) (B : Pt), s.WarmedH vm₁ ∧ Stand p l e R s m args below meth c B.U B.locs B.cells B.slots ∧ PostX ⟨T.setVm vm₁, locs, cells, slots⟩ (Value.ref b :: argsL).toArray q B ∧
      Steps p.tables e below (T.setTop g) ((B.U.setTop { g with stack := rest }).pushFrame (.throwing q))) := by
  obtain ⟨mk, methM, hnamed, hmethM, hstM, habM⟩ := Cond.instanceMethod_spec hinst
  obtain ⟨methM', cM, hmethM', -, -, -, -, -, -, hsigM⟩ := Cond.code_spec hnamed hcode
  cases hmethM.symm.trans hmethM'
  obtain ⟨c2, r2, m2, q1, q2, q3, q4, kP, hkP, hkPi⟩ := Cond.selects_spec hsel
  cases hcls.symm.trans q1
  cases (State.methodFound?_of_named hnamed hy).symm.trans q2
  cases hnamed.symm.trans q3
  have hselP : selectMethod e.platform s.vm cellB.cls mk = .method mk := by rw [Launch.admits_selectMethod X.admits]; exact q4
  obtain ⟨vm₁, X₁, hstep₁⟩ := X.invokevirtual hexec hown hlink hnamed hmethM hstM hkP hkPi hy (a := b) (cell := cellB) hcell
    (fun z h => by rw [h] at hobj; cases hobj) hselP hmethM habM hkP hkPi (g := g) hg (argsL := argsL) (rest := rest) (hlen _ hsigM) hstack hdg
  rcases hK m meth c ⟨T.setVm vm₁, locs, cells, slots⟩ { g with stack := rest } (.invokevirtual index) mk (Value.ref b :: argsL).toArray X₁ hg hsize hdg hW (X₁.named hnamed) (hpre vm₁ X₁.warmed) with ⟨v, B, X', hpost, hsteps⟩ | ⟨q, B, X', hpost, hsteps⟩
  · exact Or.inl ⟨v, vm₁, B, X₁.warmed, X', hpost, fun target h => hstep₁ _ fun acts => by rw [doInvoke_state]; exact hsteps.trans h⟩
  · exact Or.inr ⟨q, vm₁, B, X₁.warmed, X', hpost, hstep₁ _ fun acts => by rw [doInvoke_state]; exact hsteps⟩
theorem vx_callS (X : Stand p l e R s m args below meth c T locs cells slots) (hexec : p.tables.exec = Jvm.exec) {own : String} {index : Nat} {y : MethodName} {bytes : ByteArray} {maxL : Nat} {ret : Option FieldType}
    (hown : s.vm.findClass own = some m.cls) (hlink : (Cond.methodLink own index y).before args s = true) (hstat : (Cond.static y).before args s = true) (hinit : (Cond.initialized y.cls).before args s = true)
    (hcode : (Cond.code y bytes maxL ret).before args s = true) (hy : y.cls ≠ "java/lang/invoke/MethodHandle" ∧ y.cls ≠ "java/lang/invoke/VarHandle")
    {W9 : Nat} {Pre : Pt → Array Value → Prop} {Post : Pt → Array Value → Option Value → Pt → Prop} {PostX : Pt → Array Value → Addr → Pt → Prop} (hK : vx_Back l R p e below s args y 3 W9 Pre Post PostX)
    {g : JFrame} (hg : g.method = m) (hsize : g.locals.size = c.maxLocals) {argsL rest : List Value} (hlen : ∀ sig, parseMethodDescriptor y.desc = some sig → argsL.length = sig.parameters.length)
    (hstack : g.stack = argsL.reverse ++ rest) (hW : 2 * g.monitorRoom + (rest.map fun v => v.category).sum ≤ W9) (hdg : decode c.code g.pc = .ok (.invokestatic index, 3))
    (hpre : ∀ vm₁, s.WarmedH vm₁ → Pre ⟨T.setVm vm₁, locs, cells, slots⟩ argsL.toArray) :
    (∃ (v : Option Value) (vm₁ : Vm) (B : Pt), s.WarmedH vm₁ ∧ Stand p l e R s m args below meth c B.U B.locs B.cells B.slots ∧ Post ⟨T.setVm vm₁, locs, cells, slots⟩ argsL.toArray v B ∧
      ∀ target, Steps p.tables e below (B.U.setTop { g with pc := g.pc + 3, stack := v.toList ++ rest }) target → Steps p.tables e below (T.setTop g) target) ∨
    (∃ (q : Addr) (vm₁ : Vm) (B : Pt), s.WarmedH vm₁ ∧ Stand p l e R s m args below meth c B.U B.locs B.cells B.slots ∧ PostX ⟨T.setVm vm₁, locs, cells, slots⟩ argsL.toArray q B ∧
      Steps p.tables e below (T.setTop g) ((B.U.setTop { g with stack := rest }).pushFrame (.throwing q))) := by
  obtain ⟨mk, hnamed⟩ := Cond.code_named hcode
  obtain ⟨methM, cM, hmethM, -, -, -, -, -, -, hsigM⟩ := Cond.code_spec hnamed hcode
  have hstatic : methM.isStatic = true := Cond.static_spec hnamed hmethM hstat
  obtain ⟨kP, hkP, -⟩ := className_of_methodNamed hnamed
  have hinitP : kP.init = .initialized := Cond.initialized_spec (findClass_of_methodNamed hnamed) hkP hinit
  obtain ⟨vm₁, X₁, hstep₁⟩ := X.invokestatic hexec hown hlink hnamed hmethM hstatic hkP hinitP hy (g := g) hg (argsL := argsL) (rest := rest) (hlen _ hsigM) hstack hdg
  rcases hK m meth c ⟨T.setVm vm₁, locs, cells, slots⟩ { g with stack := rest } (.invokestatic index) mk argsL.toArray X₁ hg hsize hdg hW (X₁.named hnamed) (hpre vm₁ X₁.warmed) with ⟨v, B, X', hpost, hsteps⟩ | ⟨q, B, X', hpost, hsteps⟩
  · exact Or.inl ⟨v, vm₁, B, X₁.warmed, X', hpost, fun target h => hstep₁ _ fun acts => by rw [doInvoke_state]; exact hsteps.trans h⟩
  · exact Or.inr ⟨q, vm₁, B, X₁.warmed, X', hpost, hstep₁ _ fun acts => by rw [doInvoke_state]; exact hsteps⟩
end Calls
theorem vx_cls {s : State} {T : State} {vm₁ : Vm} {E : String} {k : ClassId} (hW : s.WarmedH vm₁) (h : (T.setVm vm₁).vm.findClass E = some k) : s.vm.findClass E = some k := by
  have h1 : vm₁.findClass E = some k := h
  rw [hW.alike.findClass] at h1
  exact h1
/-- the method's frame g, with q thrown over it -/
def vx_W (p : Program) (l : Launch) (e : Env) (R : Room) (s : State) (m : MethodId) (args : Array Value) (below : List Frame) (meth : Method) (c : Code) (H : Heap) (locs : List Loc) (cells slots : Nat) (Q : State → Prop) (g : JFrame) (q : Addr) : Prop :=
  ∀ T : State, T.heap = H → Stand p l e R s m args below meth c T locs cells slots → ∃ t, Steps p.tables e below ((T.setTop g).pushFrame (.throwing q)) t ∧ Q t
def vx_Run (p : Program) (l : Launch) (e : Env) (R : Room) (s : State) (m : MethodId) (args : Array Value) (below : List Frame) (meth : Method) (c : Code) (H : Heap) (locs : List Loc) (cells slots mc ms : Nat) (g : JFrame) (rest : List Value) (Qa : State → Outcome → State → Prop) (XC : String → State → State → Prop) (free : Addr → Prop) : Prop :=
  ∀ T : State, T.heap = H → Stand p l e R s m args below meth c T locs cells slots →
    (∃ (v : Option Value) (st₀ t T' : State) (L : List Loc), st₀.heap = H ∧ Stand p l e R s m args below meth c T' (locs ++ L) (cells + mc) (slots + ms) ∧ (∀ q ∈ L, free q.base) ∧ T'.heap = t.heap ∧ T'.vm = t.vm ∧ Qa st₀ (.returned v) t ∧
      Goes p e below T g T' { g with pc := g.pc + 3, stack := v.toList ++ rest }) ∨
    (∃ (q : Addr) (st₀ t T' : State) (L : List Loc) (E : String) (ce : Cell), st₀.heap = H ∧ Stand p l e R s m args below meth c T' (locs ++ L) (cells + mc) (slots + ms) ∧ (∀ z ∈ L, free z.base) ∧ T'.heap = t.heap ∧ T'.vm = t.vm ∧ XC E st₀ t ∧ t.heap[q]? = some ce ∧ ce.vm = .none ∧ s.vm.findClass E = some ce.cls ∧
      Steps p.tables e below (T.setTop g) ((T'.setTop { g with stack := rest }).pushFrame (.throwing q)))
def vx_X {S : Type} (px : S → Prop) (B : String → S → State → Prop) (A : Nat → Prop) : String → State → State → Prop := fun E st t => ∃ u : S, px u ∧ B E u t ∧ va_F A st t
section Runs
variable {p : Program} {l : Launch} {e : Env} {R : Room} {s : State} {m : MethodId} {args : Array Value} {below : List Frame} {meth : Method} {c : Code} {H : Heap} {locs : List Loc} {cells slots : Nat}
variable {y : MethodName} {bytes cc : ByteArray} {maxL nL mc ms n index : Nat} {ret : Option FieldType} {ws : List Cond} {rm : Room} {Pc : Array Value → State → Prop} {Qc : Array Value → State → Outcome → State → Prop} {XC : String → State → State → Prop} {free : Addr → Prop} {Ts : List Cond} {own C : String} {b : Addr} {As rest : List Value} {g : JFrame}
theorem vx_callBack (cb : CallB R s args own index y bytes maxL ret ws rm mc ms n) (hM : vx_Met l y ws rm Pc Qc XC mc ms free) (hbl : FrameBlind Pc) : vx_Back l R p e below s args y 3 8 (PreOf R mc ms Pc) (PostOf Qc mc ms free) (vx_Post XC mc ms free) := by
  obtain ⟨hrc, hrs, hfr, hlo, hws, hcw, -, hini, -⟩ := cb
  exact vx_back (bytes := bytes) (maxL := maxL) (ret := ret) hM hbl hrc hrs hfr hlo hws hcw (fun a' U hW => word_at hW (Or.inl (by first | rfl | simp [Cond.onTables, Cond.keeps, Cond.steady])) hini)
theorem vx_runV (S : CallFix p m c cc nL s args Ts own) (hM : vx_Met l y ws rm Pc Qc XC mc ms free) (cw : CallW R s args own C index y bytes maxL ret ws rm mc ms n) (hp : PreV s H C b Pc As)
    (hg : g.method = m) (hn : As.length = n) (hsize : g.locals.size = nL) (hstack : g.stack = As.reverse ++ .ref b :: rest) (hW : 2 * g.monitorRoom + (rest.map fun v => v.category).sum ≤ 8) (hdg : decode cc g.pc = .ok (.invokevirtual index, 3)) (hf : cells + mc ≤ R.cells ∧ slots + ms ≤ R.slots) :
    vx_Run p l e R s m args below meth c H locs cells slots mc ms g rest (Qc (Value.ref b :: As).toArray) XC free := by
  have hK : vx_Back l R p e below s args y 3 8 (PreOf R mc ms Pc) (PostOf Qc mc ms free) (vx_Post XC mc ms free) := vx_callBack cw.1 hM hp.1
  obtain ⟨⟨-, -, -, -, -, -, hcode, -, hy, hlen, hl⟩, hin, hse⟩ := cw
  obtain ⟨hx, hb, hml, ho, -⟩ := S
  obtain ⟨-, ⟨cellB, hcB, hoB, hclB⟩, hPc⟩ := hp
  intro T hT X
  rcases vx_callV X hx (C := C) (bytes := bytes) (maxL := maxL) (ret := ret) ho hl hin hse hcode hy hK (by rw [hT]; exact hcB) hoB hclB hg (hsize.trans hml.symm) (argsL := As) (rest := rest) (fun sig h => hn.trans (hlen sig h)) hstack hW (by rw [hb]; exact hdg)
    (fun vm₁ hW₁ => ⟨hf.1, hf.2, hPc (T.setVm vm₁) hT hW₁⟩) with ⟨v, vm₁, ⟨U', l2, c2, s2⟩, hW₁, X', ⟨g', mk, t, L, e1, e2, hq, h1, hL, h2, h3⟩, st⟩ | ⟨q, vm₁, ⟨U', l2, c2, s2⟩, hW₁, X', ⟨g', mk, t, L, E, ce, e1, e2, hq, hce, hcv, hcl, h1, hL, h2, h3⟩, st⟩
  · dsimp only [Pt.U, Pt.locs, Pt.cells, Pt.slots] at X' e1 e2 h1 h2 h3 st
    subst h1; subst h2; subst h3
    exact Or.inl ⟨v, (T.setVm vm₁).calling g' mk (Value.ref b :: As).toArray, t, U', L, hT, X', hL, e1, e2, hq, st⟩
  · dsimp only [Pt.U, Pt.locs, Pt.cells, Pt.slots] at X' e1 e2 h1 h2 h3 st hcl
    subst h1; subst h2; subst h3
    exact Or.inr ⟨q, (T.setVm vm₁).calling g' mk (Value.ref b :: As).toArray, t, U', L, E, ce, hT, X', hL, e1, e2, hq, hce, hcv, vx_cls hW₁ hcl, st⟩
theorem vx_runS (S : CallFix p m c cc nL s args Ts own) (hM : vx_Met l y ws rm Pc Qc XC mc ms free) (cw : CallB R s args own index y bytes maxL ret ws rm mc ms n ∧ (Cond.static y).before args s = true) (hp : PreS s H Pc As)
    (hg : g.method = m) (hn : As.length = n) (hsize : g.locals.size = nL) (hstack : g.stack = As.reverse ++ rest) (hW : 2 * g.monitorRoom + (rest.map fun v => v.category).sum ≤ 8) (hdg : decode cc g.pc = .ok (.invokestatic index, 3)) (hf : cells + mc ≤ R.cells ∧ slots + ms ≤ R.slots) :
    vx_Run p l e R s m args below meth c H locs cells slots mc ms g rest (Qc As.toArray) XC free := by
  have hK : vx_Back l R p e below s args y 3 8 (PreOf R mc ms Pc) (PostOf Qc mc ms free) (vx_Post XC mc ms free) := vx_callBack cw.1 hM hp.1
  obtain ⟨⟨-, -, -, -, -, -, hcode, hini, hy, hlen, hl⟩, hstt⟩ := cw
  obtain ⟨hx, hb, hml, ho, -⟩ := S
  intro T hT X
  rcases vx_callS X hx (bytes := bytes) (maxL := maxL) (ret := ret) ho hl hstt hini hcode hy hK hg (hsize.trans hml.symm) (argsL := As) (rest := rest) (fun sig h => hn.trans (hlen sig h)) hstack hW (by rw [hb]; exact hdg)
    (fun vm₁ hW₁ => ⟨hf.1, hf.2, hp.2 (T.setVm vm₁) hT hW₁⟩) with ⟨v, vm₁, ⟨U', l2, c2, s2⟩, hW₁, X', ⟨g', mk, t, L, e1, e2, hq, h1, hL, h2, h3⟩, st⟩ | ⟨q, vm₁, ⟨U', l2, c2, s2⟩, hW₁, X', ⟨g', mk, t, L, E, ce, e1, e2, hq, hce, hcv, hcl, h1, hL, h2, h3⟩, st⟩
  · dsimp only [Pt.U, Pt.locs, Pt.cells, Pt.slots] at X' e1 e2 h1 h2 h3 st
    subst h1; subst h2; subst h3
    exact Or.inl ⟨v, (T.setVm vm₁).calling g' mk As.toArray, t, U', L, hT, X', hL, e1, e2, hq, st⟩
  · dsimp only [Pt.U, Pt.locs, Pt.cells, Pt.slots] at X' e1 e2 h1 h2 h3 st hcl
    subst h1; subst h2; subst h3
    exact Or.inr ⟨q, (T.setVm vm₁).calling g' mk As.toArray, t, U', L, E, ce, hT, X', hL, e1, e2, hq, hce, hcv, vx_cls hW₁ hcl, st⟩
end Runs
section Rows
variable {p : Program} {l : Launch} {e : Env} {R : Room} {s : State} {m : MethodId} {args : Array Value} {below : List Frame} {meth : Method} {c : Code} {H : Heap} {locs : List Loc} {cells slots : Nat} {Q : State → Prop}
variable {mc ms : Nat} {free : Addr → Prop} {A0 A1 : Nat → Prop} {H0 : Heap} {a : Array Value} {pc : Nat} {ls : Array Slot} {st0 rest : List Value}
theorem vx_keep {st₀ t T' : State} {L : List Loc} (h0 : st₀.heap = H) (e1 : T'.heap = t.heap) (hS : va_S A0 H0 H locs) (hA : ∀ q, q < H.size → A1 q → A0 q) (hf : ∀ q, free q → A0 q) (hL : ∀ q ∈ L, free q.base) (hF : va_F A1 st₀ t) :
    H.size ≤ T'.heap.size ∧ (∀ q : Nat, q < H.size → ¬ A1 q → T'.heap[q]? = H[q]?) ∧ va_S A0 H0 T'.heap (locs ++ L) := by
  obtain ⟨hz, hk⟩ := hF
  rw [h0] at hz hk
  exact ⟨by rw [e1]; exact hz, fun q h1 h2 => by rw [e1]; exact hk q h1 h2,
    ⟨Nat.le_trans hS.1 (by rw [e1]; exact hz), fun q h1 h2 => by rw [e1, hk q (Nat.lt_of_lt_of_le h1 hS.1) (fun z => h2 (hA q (Nat.lt_of_lt_of_le h1 hS.1) z))]; exact hS.2.1 q h1 h2, fun q hq => by
      rcases List.mem_append.mp hq with h | h
      · exact hS.2.2 q h
      · exact hf _ (hL q h)⟩⟩
theorem vx_calli {S SX : Type} {post : Int32 → S → Prop} {px : SX → Prop} {B : S → State → Prop} {BX : String → SX → State → Prop} {AX : Nat → Prop} (hr : vx_Run p l e R s m args below meth c H locs cells slots mc ms (F0 m pc ls st0) rest (va_Qi post B A1 a) (vx_X px BX AX) free) (hS : va_S A0 H0 H locs) (hA : ∀ q, q < H.size → A1 q → A0 q) (hf : ∀ q, free q → A0 q) (hAX : ∀ q, q < H.size → AX q → A0 q)
    (kx : ∀ (E : String) (ce : Cell) (q9 : Addr) (u : SX) (t : State) (H1 : Heap) (locs1 : List Loc), t.heap = H1 → s.vm.Alike t.vm → px u → BX E u t → H.size ≤ H1.size → (∀ q : Nat, q < H.size → ¬ AX q → H1[q]? = H[q]?) → va_S A0 H0 H1 locs1 → H1[q9]? = some ce → ce.vm = .none → s.vm.findClass E = some ce.cls → vx_W p l e R s m args below meth c H1 locs1 (cells + mc) (slots + ms) Q (F0 m pc ls rest) q9)
    (kk : ∀ (r : Int32) (u : S) (t : State) (H1 : Heap) (locs1 : List Loc), t.heap = H1 → s.vm.Alike t.vm → post r u → B u t → H.size ≤ H1.size → (∀ q : Nat, q < H.size → ¬ A1 q → H1[q]? = H[q]?) → va_S A0 H0 H1 locs1 → W p l e R s m args below meth c H1 locs1 (cells + mc) (slots + ms) Q (F0 m (pc + 3) ls (.int r :: rest))) : W p l e R s m args below meth c H locs cells slots Q (F0 m pc ls st0) := by
  intro T hT X
  rcases hr T hT X with ⟨v, st₀, t, T', L, h0, X', hL, e1, e2, ⟨⟨r, u, hv, hp, hb⟩, hF⟩, st⟩ | ⟨q, st₀, t, T', L, E, ce, h0, X', hL, e1, e2, ⟨u, hp, hb, hF⟩, hce, hcv, hcl, st⟩
  · cases hv
    obtain ⟨k1, k2, k3⟩ := vx_keep h0 e1 hS hA hf hL hF
    obtain ⟨t2, a1, b1⟩ := kk r u t T'.heap (locs ++ L) e1.symm (by rw [← e2]; exact X'.warmed.alike) hp hb k1 k2 k3 T' rfl X'
    exact ⟨t2, st t2 a1, b1⟩
  · obtain ⟨k1, k2, k3⟩ := vx_keep h0 e1 hS hAX hf hL hF
    obtain ⟨t2, a1, b1⟩ := kx E ce q u t T'.heap (locs ++ L) e1.symm (by rw [← e2]; exact X'.warmed.alike) hp hb k1 k2 k3 (by rw [e1]; exact hce) hcv hcl T' rfl X'
    exact ⟨t2, st.trans a1, b1⟩
theorem vx_calll {S SX : Type} {post : Int64 → S → Prop} {px : SX → Prop} {B : S → State → Prop} {BX : String → SX → State → Prop} {AX : Nat → Prop} (hr : vx_Run p l e R s m args below meth c H locs cells slots mc ms (F0 m pc ls st0) rest (va_Ql post B A1 a) (vx_X px BX AX) free) (hS : va_S A0 H0 H locs) (hA : ∀ q, q < H.size → A1 q → A0 q) (hf : ∀ q, free q → A0 q) (hAX : ∀ q, q < H.size → AX q → A0 q)
    (kx : ∀ (E : String) (ce : Cell) (q9 : Addr) (u : SX) (t : State) (H1 : Heap) (locs1 : List Loc), t.heap = H1 → s.vm.Alike t.vm → px u → BX E u t → H.size ≤ H1.size → (∀ q : Nat, q < H.size → ¬ AX q → H1[q]? = H[q]?) → va_S A0 H0 H1 locs1 → H1[q9]? = some ce → ce.vm = .none → s.vm.findClass E = some ce.cls → vx_W p l e R s m args below meth c H1 locs1 (cells + mc) (slots + ms) Q (F0 m pc ls rest) q9)
    (kk : ∀ (r : Int64) (u : S) (t : State) (H1 : Heap) (locs1 : List Loc), t.heap = H1 → s.vm.Alike t.vm → post r u → B u t → H.size ≤ H1.size → (∀ q : Nat, q < H.size → ¬ A1 q → H1[q]? = H[q]?) → va_S A0 H0 H1 locs1 → W p l e R s m args below meth c H1 locs1 (cells + mc) (slots + ms) Q (F0 m (pc + 3) ls (.long r :: rest))) : W p l e R s m args below meth c H locs cells slots Q (F0 m pc ls st0) := by
  intro T hT X
  rcases hr T hT X with ⟨v, st₀, t, T', L, h0, X', hL, e1, e2, ⟨⟨r, u, hv, hp, hb⟩, hF⟩, st⟩ | ⟨q, st₀, t, T', L, E, ce, h0, X', hL, e1, e2, ⟨u, hp, hb, hF⟩, hce, hcv, hcl, st⟩
  · cases hv
    obtain ⟨k1, k2, k3⟩ := vx_keep h0 e1 hS hA hf hL hF
    obtain ⟨t2, a1, b1⟩ := kk r u t T'.heap (locs ++ L) e1.symm (by rw [← e2]; exact X'.warmed.alike) hp hb k1 k2 k3 T' rfl X'
    exact ⟨t2, st t2 a1, b1⟩
  · obtain ⟨k1, k2, k3⟩ := vx_keep h0 e1 hS hAX hf hL hF
    obtain ⟨t2, a1, b1⟩ := kx E ce q u t T'.heap (locs ++ L) e1.symm (by rw [← e2]; exact X'.warmed.alike) hp hb k1 k2 k3 (by rw [e1]; exact hce) hcv hcl T' rfl X'
    exact ⟨t2, st.trans a1, b1⟩
theorem vx_callf {S SX : Type} {post : UInt32 → S → Prop} {px : SX → Prop} {B : S → State → Prop} {BX : String → SX → State → Prop} {AX : Nat → Prop} (hr : vx_Run p l e R s m args below meth c H locs cells slots mc ms (F0 m pc ls st0) rest (va_Qf post B A1 a) (vx_X px BX AX) free) (hS : va_S A0 H0 H locs) (hA : ∀ q, q < H.size → A1 q → A0 q) (hf : ∀ q, free q → A0 q) (hAX : ∀ q, q < H.size → AX q → A0 q)
    (kx : ∀ (E : String) (ce : Cell) (q9 : Addr) (u : SX) (t : State) (H1 : Heap) (locs1 : List Loc), t.heap = H1 → s.vm.Alike t.vm → px u → BX E u t → H.size ≤ H1.size → (∀ q : Nat, q < H.size → ¬ AX q → H1[q]? = H[q]?) → va_S A0 H0 H1 locs1 → H1[q9]? = some ce → ce.vm = .none → s.vm.findClass E = some ce.cls → vx_W p l e R s m args below meth c H1 locs1 (cells + mc) (slots + ms) Q (F0 m pc ls rest) q9)
    (kk : ∀ (r : UInt32) (u : S) (t : State) (H1 : Heap) (locs1 : List Loc), t.heap = H1 → s.vm.Alike t.vm → post r u → B u t → H.size ≤ H1.size → (∀ q : Nat, q < H.size → ¬ A1 q → H1[q]? = H[q]?) → va_S A0 H0 H1 locs1 → W p l e R s m args below meth c H1 locs1 (cells + mc) (slots + ms) Q (F0 m (pc + 3) ls (.float r :: rest))) : W p l e R s m args below meth c H locs cells slots Q (F0 m pc ls st0) := by
  intro T hT X
  rcases hr T hT X with ⟨v, st₀, t, T', L, h0, X', hL, e1, e2, ⟨⟨r, u, hv, hp, hb⟩, hF⟩, st⟩ | ⟨q, st₀, t, T', L, E, ce, h0, X', hL, e1, e2, ⟨u, hp, hb, hF⟩, hce, hcv, hcl, st⟩
  · cases hv
    obtain ⟨k1, k2, k3⟩ := vx_keep h0 e1 hS hA hf hL hF
    obtain ⟨t2, a1, b1⟩ := kk r u t T'.heap (locs ++ L) e1.symm (by rw [← e2]; exact X'.warmed.alike) hp hb k1 k2 k3 T' rfl X'
    exact ⟨t2, st t2 a1, b1⟩
  · obtain ⟨k1, k2, k3⟩ := vx_keep h0 e1 hS hAX hf hL hF
    obtain ⟨t2, a1, b1⟩ := kx E ce q u t T'.heap (locs ++ L) e1.symm (by rw [← e2]; exact X'.warmed.alike) hp hb k1 k2 k3 (by rw [e1]; exact hce) hcv hcl T' rfl X'
    exact ⟨t2, st.trans a1, b1⟩
theorem vx_calld {S SX : Type} {post : UInt64 → S → Prop} {px : SX → Prop} {B : S → State → Prop} {BX : String → SX → State → Prop} {AX : Nat → Prop} (hr : vx_Run p l e R s m args below meth c H locs cells slots mc ms (F0 m pc ls st0) rest (va_Qd post B A1 a) (vx_X px BX AX) free) (hS : va_S A0 H0 H locs) (hA : ∀ q, q < H.size → A1 q → A0 q) (hf : ∀ q, free q → A0 q) (hAX : ∀ q, q < H.size → AX q → A0 q)
    (kx : ∀ (E : String) (ce : Cell) (q9 : Addr) (u : SX) (t : State) (H1 : Heap) (locs1 : List Loc), t.heap = H1 → s.vm.Alike t.vm → px u → BX E u t → H.size ≤ H1.size → (∀ q : Nat, q < H.size → ¬ AX q → H1[q]? = H[q]?) → va_S A0 H0 H1 locs1 → H1[q9]? = some ce → ce.vm = .none → s.vm.findClass E = some ce.cls → vx_W p l e R s m args below meth c H1 locs1 (cells + mc) (slots + ms) Q (F0 m pc ls rest) q9)
    (kk : ∀ (r : UInt64) (u : S) (t : State) (H1 : Heap) (locs1 : List Loc), t.heap = H1 → s.vm.Alike t.vm → post r u → B u t → H.size ≤ H1.size → (∀ q : Nat, q < H.size → ¬ A1 q → H1[q]? = H[q]?) → va_S A0 H0 H1 locs1 → W p l e R s m args below meth c H1 locs1 (cells + mc) (slots + ms) Q (F0 m (pc + 3) ls (.double r :: rest))) : W p l e R s m args below meth c H locs cells slots Q (F0 m pc ls st0) := by
  intro T hT X
  rcases hr T hT X with ⟨v, st₀, t, T', L, h0, X', hL, e1, e2, ⟨⟨r, u, hv, hp, hb⟩, hF⟩, st⟩ | ⟨q, st₀, t, T', L, E, ce, h0, X', hL, e1, e2, ⟨u, hp, hb, hF⟩, hce, hcv, hcl, st⟩
  · cases hv
    obtain ⟨k1, k2, k3⟩ := vx_keep h0 e1 hS hA hf hL hF
    obtain ⟨t2, a1, b1⟩ := kk r u t T'.heap (locs ++ L) e1.symm (by rw [← e2]; exact X'.warmed.alike) hp hb k1 k2 k3 T' rfl X'
    exact ⟨t2, st t2 a1, b1⟩
  · obtain ⟨k1, k2, k3⟩ := vx_keep h0 e1 hS hAX hf hL hF
    obtain ⟨t2, a1, b1⟩ := kx E ce q u t T'.heap (locs ++ L) e1.symm (by rw [← e2]; exact X'.warmed.alike) hp hb k1 k2 k3 (by rw [e1]; exact hce) hcv hcl T' rfl X'
    exact ⟨t2, st.trans a1, b1⟩
theorem vx_callv {S SX : Type} {post : S → Prop} {px : SX → Prop} {B : S → State → Prop} {BX : String → SX → State → Prop} {AX : Nat → Prop} (hr : vx_Run p l e R s m args below meth c H locs cells slots mc ms (F0 m pc ls st0) rest (va_Qv post B A1 a) (vx_X px BX AX) free) (hS : va_S A0 H0 H locs) (hA : ∀ q, q < H.size → A1 q → A0 q) (hf : ∀ q, free q → A0 q) (hAX : ∀ q, q < H.size → AX q → A0 q)
    (kx : ∀ (E : String) (ce : Cell) (q9 : Addr) (u : SX) (t : State) (H1 : Heap) (locs1 : List Loc), t.heap = H1 → s.vm.Alike t.vm → px u → BX E u t → H.size ≤ H1.size → (∀ q : Nat, q < H.size → ¬ AX q → H1[q]? = H[q]?) → va_S A0 H0 H1 locs1 → H1[q9]? = some ce → ce.vm = .none → s.vm.findClass E = some ce.cls → vx_W p l e R s m args below meth c H1 locs1 (cells + mc) (slots + ms) Q (F0 m pc ls rest) q9)
    (kk : ∀ (u : S) (t : State) (H1 : Heap) (locs1 : List Loc), t.heap = H1 → s.vm.Alike t.vm → post u → B u t → H.size ≤ H1.size → (∀ q : Nat, q < H.size → ¬ A1 q → H1[q]? = H[q]?) → va_S A0 H0 H1 locs1 → W p l e R s m args below meth c H1 locs1 (cells + mc) (slots + ms) Q (F0 m (pc + 3) ls (rest))) : W p l e R s m args below meth c H locs cells slots Q (F0 m pc ls st0) := by
  intro T hT X
  rcases hr T hT X with ⟨v, st₀, t, T', L, h0, X', hL, e1, e2, ⟨⟨u, hv, hp, hb⟩, hF⟩, st⟩ | ⟨q, st₀, t, T', L, E, ce, h0, X', hL, e1, e2, ⟨u, hp, hb, hF⟩, hce, hcv, hcl, st⟩
  · cases hv
    obtain ⟨k1, k2, k3⟩ := vx_keep h0 e1 hS hA hf hL hF
    obtain ⟨t2, a1, b1⟩ := kk u t T'.heap (locs ++ L) e1.symm (by rw [← e2]; exact X'.warmed.alike) hp hb k1 k2 k3 T' rfl X'
    exact ⟨t2, st t2 a1, b1⟩
  · obtain ⟨k1, k2, k3⟩ := vx_keep h0 e1 hS hAX hf hL hF
    obtain ⟨t2, a1, b1⟩ := kx E ce q u t T'.heap (locs ++ L) e1.symm (by rw [← e2]; exact X'.warmed.alike) hp hb k1 k2 k3 (by rw [e1]; exact hce) hcv hcl T' rfl X'
    exact ⟨t2, st.trans a1, b1⟩
/-- caught by the row x of this method's table; the rows ahead don't take it -/
theorem vx_catch {own name : String} {E : String} {ce : Cell} {q : Addr} (hown : s.vm.findClass own = some m.cls) (pre : List ExceptionTableEntry) (x : ExceptionTableEntry) (suf : List ExceptionTableEntry) (hsplit : c.exceptionTable.toList = pre ++ x :: suf)
    (hpass : ∀ z ∈ pre, covers z pc = false ∨ (z.catchType ≠ 0 ∧ ∃ nm : String, (Cond.classLink own z.catchType nm).before args s = true ∧ va_Nc E nm s)) (hx : covers x pc = true) (h0 : x.catchType ≠ 0)
    (hlink : (Cond.classLink own x.catchType name).before args s = true) (hcast : (Cond.castable E name).before args s = true) (hcell : H[q]? = some ce) (hv : ce.vm = .none) (hcl : s.vm.findClass E = some ce.cls)
    (kk : W p l e R s m args below meth c H locs cells slots Q (F0 m x.handlerPc ls [.ref q])) : vx_W p l e R s m args below meth c H locs cells slots Q (F0 m pc ls rest) q := by
  intro T hT X
  have hpl : e.platform.magicAccessors = ({} : Platform).magicAccessors := by rw [X.admits.platform]
  obtain ⟨c3, c4, hc3, hc4, hasg⟩ := Cond.castable_spec hcast
  cases Option.some.inj (hc3.symm.trans hcl)
  obtain ⟨c5, hc5, hcl5⟩ := Cond.classLink_spec hown hlink e.platform hpl
  cases Option.some.inj (hc4.symm.trans hc5)
  obtain ⟨vm', X', st⟩ := X.thenCaughtThrough q (g := F0 m pc ls rest) rfl (Steps.refl _) (by rw [hT]; exact hcell) (by rw [hv]; rfl) (by obtain ⟨k9, h9, -⟩ := Vm.findClass_spec hcl; exact ⟨k9, h9⟩) pre x suf hsplit
    (fun z hz => by
      rcases hpass z hz with h | ⟨hz0, nm, hl1, hn1⟩
      · exact Or.inl h
      · obtain ⟨c6, hc6, hcl6⟩ := Cond.classLink_spec hown hl1 e.platform hpl
        obtain ⟨a8, b8, h1, h2, h3⟩ := hn1
        cases Option.some.inj (h1.symm.trans hcl)
        cases Option.some.inj (h2.symm.trans hc6)
        exact Or.inr ⟨hz0, _, hcl6, h3⟩) hx (Or.inr ⟨h0, c4, hcl5, hasg⟩)
  obtain ⟨t, a1, b1⟩ := kk (T.setVm vm') hT X'
  exact ⟨t, st.trans a1, b1⟩
end Rows
section Ends
variable {p : Program} {l : Launch} {e : Env} {R : Room} {s : State} {m : MethodId} {args : Array Value} {below : List Frame} {meth : Method} {c : Code} {H : Heap} {locs : List Loc} {cells slots : Nat} {Q : State → Prop}
variable {mc ms : Nat} {free : Addr → Prop} {A0 A1 : Nat → Prop} {H0 : Heap} {a : Array Value} {ls : Array Slot} {st0 rest : List Value}
variable {Qc : Array Value → State → Outcome → State → Prop} {XC : String → State → State → Prop}
/-- what a body that may throw owes at its end -/
def vx_MQ (below : List Frame) (Qc : Array Value → State → Outcome → State → Prop) (XC : String → State → State → Prop) (a : Array Value) (s : State) (mc ms : Nat) (free : Addr → Prop) : State → Prop := fun t =>
  ∃ o, t.status = .running ∧ Ended t below o ∧ vx_Q Qc XC mc ms free a s o t
theorem vx_ret {g : JFrame} {mc ms : Nat} (k : W p l e R s m args below meth c H locs cells slots (MQ below Qc args s mc ms free) g) : W p l e R s m args below meth c H locs cells slots (vx_MQ below Qc XC args s mc ms free) g := by
  intro T hT X
  obtain ⟨t, a1, o, b1, b2, b3, b4⟩ := k T hT X
  exact ⟨t, a1, o, b1, b2, Or.inl ⟨b3, b4⟩⟩
/-- not caught here: it goes on to the caller -/
theorem vx_widen {g : JFrame} {q : Addr} {k n : Nat} (h1 : cells ≤ k) (h2 : slots ≤ n) (kk : vx_W p l e R s m args below meth c H locs k n Q g q) : vx_W p l e R s m args below meth c H locs cells slots Q g q := fun T hT X => kk T hT (stand_widen X h1 h2)
theorem vx_out {pc : Nat} {E : String} {ce : Cell} {q : Addr} {mc ms : Nat} (hout : ∀ x ∈ c.exceptionTable.toList, covers x pc = false) (hlocks : meth.locks = false) (hcell : H[q]? = some ce) (hv : ce.vm = .none) (hcl : s.vm.findClass E = some ce.cls)
    (hx : ∀ t : State, t.heap = H → s.vm.Alike t.vm → XC E s t) (hf : ∀ z ∈ locs, free z.base) (hc : cells ≤ mc) (hs : slots ≤ ms) :
    vx_W p l e R s m args below meth c H locs cells slots (vx_MQ below Qc XC args s mc ms free) (F0 m pc ls rest) q := by
  intro T hT X
  obtain ⟨st1, hrun, hend, hW, hsm⟩ := X.leaveThrown q (g := F0 m pc ls rest) rfl rfl rfl hout hlocks
  have hcell9 : (T.setFrames (.throwing q :: below)).heap[q]? = some ce := by
    show T.heap[q]? = some ce
    rw [hT]; exact hcell
  exact ⟨_, st1, .threw q, hrun, hend, Or.inr ⟨q, rfl, E, ce, locs, hx _ hT hW.alike, hcell9, hv, hcl, hW, hsm.mono hc hs, hf⟩⟩
theorem vx_frame {U : State} {k n : Nat} (h : s.sameButNew ({ U with vm := s.vm } : State) locs k n) : s.heap.size ≤ U.heap.size ∧ ∀ q : Nat, q < s.heap.size → (∀ z ∈ locs, z.base ≠ q) → U.heap[q]? = s.heap[q]? := by
  obtain ⟨-, h2, -, -, -, h6⟩ := h
  refine ⟨h2, fun q hq hz => ?_⟩
  obtain ⟨c9, e1, e2, e3, e4⟩ := h6 q _ (Array.getElem?_eq_getElem hq)
  have hs : c9.slots = (s.heap[q]).slots := Array.ext_getElem? fun i => e4 i fun hm => hz _ hm rfl
  have h9 : c9 = s.heap[q] := by
    rw [hs] at e2
    exact e2
  have e5 : U.heap[q]? = some c9 := e1
  rw [e5, h9, Array.getElem?_eq_getElem hq]
/-- the words of a throw but the four that speak of the heap -/
def vx_no (w : Cond) : Bool := decide (w ≠ .isRef (.static Bundle.tN "UNASSIGNED_STACK" Bundle.steD)) && decide (w ≠ .isRef (.static Bundle.tN "SUPPRESSED_SENTINEL" Bundle.listD)) && decide (w ≠ .laysStatic Bundle.tN "UNASSIGNED_STACK" Bundle.steD) && decide (w ≠ .laysStatic Bundle.tN "SUPPRESSED_SENTINEL" Bundle.listD)
def vx_at0 (own : String) (ic : Nat) (X : String) (names : List String) : List Cond := (Bundle.ownAtoms0 own ic X names).filter vx_no
def vx_atS (own : String) (ic : Nat) (X : String) (names : List String) : List Cond := (Bundle.ownAtoms own ic X names).filter vx_no
/-- a word that the tables alone decide, or a good one -/
def vx_ot (w : Cond) : Bool := w.onTables || goodWord w
theorem vx_ot_at {args a' : Array Value} {s U : State} {w : Cond} (hW : s.WarmedH U.vm) (hvm : s.vm = U.vm) (hg : vx_ot w = true) (h : w.before args s = true) : w.before a' U = true := by
  simp only [vx_ot, Bool.or_eq_true] at hg
  rcases hg with hg | hg
  · exact va_tabs hg hvm h
  · exact word_at hW (good_of_word hg) h
/-- a list's words: the good ones out of the method's own list, the others by premises of their own -/
theorem vx_hat {args : Array Value} {s : State} {L B : List Cond} (h1 : ∀ w ∈ L.filter goodWord, w.before args s = true) (h2 : ∀ w ∈ L.filter (fun w => !goodWord w), w ∈ B) (h3 : ∀ w ∈ B, w.before args s = true) : ∀ w ∈ L, w.before args s = true := by
  intro w hw
  by_cases g : goodWord w = true
  · exact h1 w (List.mem_filter.mpr ⟨hw, g⟩)
  · refine h3 w (h2 w (List.mem_filter.mpr ⟨hw, ?_⟩))
    show (!goodWord w) = true
    cases hgw : goodWord w
    · rfl
    · exact absurd hgw g
theorem vx_c {args : Array Value} {s : State} {w : Cond} {B : List Cond} (h : w.before args s = true) (t : ∀ w ∈ B, w.before args s = true) : ∀ w' ∈ w :: B, w'.before args s = true := fun w' h' => (List.mem_cons.mp h').elim (fun e => by rw [e]; exact h) (t w')
theorem vx_n {args : Array Value} {s : State} : ∀ w ∈ ([] : List Cond), w.before args s = true := fun _ h => nomatch h
theorem vx_own {args : Array Value} {s : State} {L : List Cond} (h1 : ∀ w ∈ L.filter vx_no, w.before args s = true)
    (hU : (Cond.isRef (.static Bundle.tN "UNASSIGNED_STACK" Bundle.steD)).before args s = true) (hN : (Cond.isRef (.static Bundle.tN "SUPPRESSED_SENTINEL" Bundle.listD)).before args s = true)
    (lU : (Cond.laysStatic Bundle.tN "UNASSIGNED_STACK" Bundle.steD).before args s = true) (lN : (Cond.laysStatic Bundle.tN "SUPPRESSED_SENTINEL" Bundle.listD).before args s = true) : ∀ w ∈ L, w.before args s = true := by
  intro w hw
  by_cases e1 : w = .isRef (.static Bundle.tN "UNASSIGNED_STACK" Bundle.steD)
  · rw [e1]; exact hU
  · by_cases e2 : w = .isRef (.static Bundle.tN "SUPPRESSED_SENTINEL" Bundle.listD)
    · rw [e2]; exact hN
    · by_cases e3 : w = .laysStatic Bundle.tN "UNASSIGNED_STACK" Bundle.steD
      · rw [e3]; exact lU
      · by_cases e4 : w = .laysStatic Bundle.tN "SUPPRESSED_SENTINEL" Bundle.listD
        · rw [e4]; exact lN
        · exact h1 w (List.mem_filter.mpr ⟨hw, by unfold vx_no; rw [decide_eq_true e1, decide_eq_true e2, decide_eq_true e3, decide_eq_true e4]; rfl⟩)
/-- where a static field lies, its class's statics cell in H -/
def vx_L (C n d : String) (A : Nat → Prop) (U : State) (H : Heap) : Prop := ∃ (c : ClassId) (k : Class) (i : Nat) (f : Field) (a : Nat) (cell : Cell), U.vm.findClass C = some c ∧ U.fieldFound? C n d = some (c, k, i, f) ∧ f.isStatic = true ∧ k.statics = some a ∧ H[a]? = some cell ∧ cell.vm.isStatics = true ∧ cell.cls = c ∧ f.slot < cell.slots.size ∧ k.staticTypes[f.slot]? = some f.type ∧ ¬ A a
theorem vx_L.moved {C n d : String} {A : Nat → Prop} {u U : State} {H : Heap} (hvm : u.vm.Alike U.vm) (h : vx_L C n d A u H) : vx_L C n d A U H := by
  obtain ⟨c, k, i, f, a, cell, h1, h2, h3, h4, h5, h6, h7, h8, h9, h10⟩ := h
  obtain ⟨k', hi', he⟩ := State.fieldFound?_setVm hvm h2
  exact ⟨c, k', i, f, a, cell, by rw [hvm.findClass]; exact h1, hi', h3, by rw [he]; exact h4, h5, h6, h7, h8, by rw [he]; exact h9, h10⟩
theorem vx_L.kept {C n d : String} {A : Nat → Prop} {U : State} {H H1 : Heap} (h : vx_L C n d A U H) (hq : ∀ a : Nat, a < H.size → ¬ A a → H1[a]? = H[a]?) : vx_L C n d A U H1 := by
  obtain ⟨c, k, i, f, a, cell, h1, h2, h3, h4, h5, h6, h7, h8, h9, h10⟩ := h
  exact ⟨c, k, i, f, a, cell, h1, h2, h3, h4, by rw [hq a (Array.getElem?_eq_some_iff.mp h5).1 h10]; exact h5, h6, h7, h8, h9, h10⟩
theorem vx_L.narrow {C n d : String} {A B : Nat → Prop} {U : State} {H : Heap} (h : vx_L C n d A U H) (hAB : ∀ q, B q → A q) : vx_L C n d B U H := by
  obtain ⟨c, k, i, f, a, cell, h1, h2, h3, h4, h5, h6, h7, h8, h9, h10⟩ := h
  exact ⟨c, k, i, f, a, cell, h1, h2, h3, h4, h5, h6, h7, h8, h9, fun z => h10 (hAB _ z)⟩
theorem vx_L.word {C n d : String} {A : Nat → Prop} {s : State} {args : Array Value} (h : vx_L C n d A s s.heap) : (Cond.laysStatic C n d).before args s = true := by
  obtain ⟨c, k, i, f, a, cell, h1, h2, h3, h4, h5, h6, h7, h8, h9, -⟩ := h
  show (Cond.laysStatic C n d).holds args s none s [] = true
  exact Cond.laysStatic_of h1 h2 h3 h4 h5 h6 h7 h8 h9
/-- .. and what it holds: null or some reference -/
def vx_Zq (C n d : String) (A : Nat → Prop) (U : State) (H : Heap) : Prop := va_Zq C n d A U H ∧ vx_L C n d A U H
theorem vx_Zq.moved {C n d : String} {A : Nat → Prop} {u U : State} {H : Heap} (hvm : u.vm.Alike U.vm) (h : vx_Zq C n d A u H) : vx_Zq C n d A U H := ⟨va_Zq.moved hvm h.1, vx_L.moved hvm h.2⟩
theorem vx_Zq.kept {C n d : String} {A : Nat → Prop} {U : State} {H H1 : Heap} (h : vx_Zq C n d A U H) (hq : ∀ a : Nat, a < H.size → ¬ A a → H1[a]? = H[a]?) : vx_Zq C n d A U H1 := ⟨va_Zq.kept h.1 hq, vx_L.kept h.2 hq⟩
theorem vx_Zq.narrow {C n d : String} {A B : Nat → Prop} {U : State} {H : Heap} (h : vx_Zq C n d A U H) (hAB : ∀ q, B q → A q) : vx_Zq C n d B U H := ⟨va_Zq.narrow h.1 hAB, vx_L.narrow h.2 hAB⟩
theorem vx_Zqof {args : Array Value} {s : State} {C n d : String} {A : Nat → Prop} (hl : (Cond.laysStatic C n d).before args s = true) (hini : (Cond.initialized C).before args s = true) (h : (Cond.isRef (.static C n d)).before args s = true) (hA : ∀ a : Nat, a < s.heap.size → ¬ A a) : vx_Zq C n d A s s.heap := by
  refine ⟨va_Zqof hl hini h hA, ?_⟩
  obtain ⟨c, k, i, f, a, cell, h1, h2, h3, h4, h5, h6, h7, h8, h9⟩ := Cond.laysStatic_spec hl
  exact ⟨c, k, i, f, a, cell, h1, h2, h3, h4, h5, h6, h7, h8, h9, hA a (Array.getElem?_eq_some_iff.mp h5).1⟩
theorem vx_isRef {C n d : String} {v : Value} {A : Nat → Prop} {s : State} {args : Array Value} (h : va_Z C n d v A s s.heap) (hv : v.isRef = true) : (Cond.isRef (.static C n d)).before args s = true := by
  obtain ⟨cf, kf, fi, f, a, cell, h1, h2, h3, h4, h5, h6, h7, -⟩ := h
  have he : (Term.static C n d).eval args s none [] s = some v := by
    simp [Term.eval, State.fieldNamed?, h1, h2, h4, h5, h6, h7]
  simp only [Cond.before, Cond.holds, Cond.value, he]
  cases v <;> simp_all [Value.isRef]
theorem vx_isRefq {C n d : String} {A : Nat → Prop} {s : State} {args : Array Value} (h : va_Zq C n d A s s.heap) : (Cond.isRef (.static C n d)).before args s = true := by
  rcases h with h | ⟨t, h⟩
  · exact vx_isRef h rfl
  · exact vx_isRef h rfl
/-- the same frame, seen from here: as if the method were called anew in this heap -/
theorem vx_rebase {T : State} (X : Stand p l e R s m args below meth c T locs cells slots) {R' : Room} (hf : R'.frames ≤ R.frames) (hl : R'.locals ≤ R.locals) (hc : cells + R'.cells ≤ R.cells) (hs : slots + R'.slots ≤ R.slots) :
    Stand p l e R' ((T.setVm s.vm).setFrames (.invoking m args :: below)) m args below meth c T [] 0 0 := by
  have htop : (T.setVm s.vm).topJava?.isSome := X.here.top
  have hF : ((T.setVm s.vm).setFrames (.invoking m args :: below)).frames = .invoking m args :: below := State.frames_setFrames _ (State.cur_lt_of_top htop)
  obtain ⟨g₀, hg0⟩ := Option.isSome_iff_exists.mp htop
  obtain ⟨r, hr⟩ := State.topJava?_eq_some.mp hg0
  have hl9 : e.platform.stackLimits (T.setVm s.vm).me = e.platform.stackLimits s.me := X.limits
  have hb9 : (T.setVm s.vm).me.stackBytes = s.me.stackBytes := X.bytes
  refine ⟨X.admits, X.cas, X.clock, hF, ?_, X.hears, X.method, X.code, X.here, X.tail, X.warmed, ?_, ?_, ?_⟩
  · have h := X.room
    have hU : ((T.setVm s.vm).setFrames (.invoking m args :: below)).localsInUse = s.localsInUse := by
      rw [State.localsInUse_invoking hF (meth := meth) (c := c) X.method X.code, State.localsInUse_invoking X.frames X.method X.code]
    simp only [State.hasRoom, Bool.and_eq_true, decide_eq_true_eq] at h ⊢
    obtain ⟨⟨⟨⟨h1, h2, h3, h4, h5, h6⟩, h7⟩, h8⟩, h9⟩ := h
    rw [X.frames, List.length_cons] at h2 h3
    have q1 := X.heapSize
    have q2 := X.used
    simp only [hF, hU, List.length_cons, State.stackLimits_setFrames, State.stackBytes_setFrames, hl9, hb9]
    refine ⟨⟨⟨⟨by omega, by omega, by omega, by omega, by omega, h6⟩, ?_⟩, ?_⟩, X.book⟩
    · show T.heap.size + R'.cells ≤ e.platform.maxCells
      omega
    · show T.slotsUsed + R'.slots ≤ e.platform.maxSlots
      omega
  · rw [State.stackLimits_setFrames]; rfl
  · rw [State.stackBytes_setFrames]; rfl
  · refine ⟨?_, Nat.le_refl _, Nat.le_refl _, ?_, ?_, fun a c9 h9 => ⟨c9, h9, rfl, rfl, fun _ _ => rfl⟩⟩
    · obtain ⟨t, ht, -⟩ := State.frames_cons hr
      show T.setVm s.vm = { ((T.setVm s.vm).setFrames (.invoking m args :: below)).setFrames (T.setVm s.vm).frames with heap := T.heap, slotsUsed := T.slotsUsed }
      rw [State.setFrames_setFrames, State.setFrames_self ht]
      rfl
    · show T.slotsUsed = T.slotsUsed + ((T.heap.toList.drop T.heap.size).map (·.slots.size)).sum
      rw [List.drop_eq_nil_of_le (Nat.le_of_eq Array.length_toList)]
      rfl
    · show ((T.heap.toList.drop T.heap.size).map (·.slots.size)).sum ≤ 0
      rw [List.drop_eq_nil_of_le (Nat.le_of_eq Array.length_toList)]
      exact Nat.le_refl _
/-- 'throw new E()': new; dup; invokespecial; athrow -/
theorem vx_throw0 {cc : ByteArray} {pc : Nat} (hexec : p.tables.exec = Jvm.exec) (hb : c.code = cc) (hl : l.stackTraces = false) {own cls : String} {names : List String} {ik ic mc ms : Nat} {A : Nat → Prop}
    (hown : s.vm.findClass own = some m.cls) (hcls : Bundle.fit cls = true) (hnames : ∀ n ∈ names, Bundle.fit n = true)
    (hk : (Cond.classLink own ik cls).before args s = true) (hini : (Cond.initialized cls).before args s = true) (hat : ∀ w ∈ vx_at0 own ic cls names, w.before args s = true)
    (hgood : ∀ w ∈ Cond.classLink own ik cls :: Cond.initialized cls :: vx_at0 own ic cls names, vx_ot w = true)
    (hU : vx_Zq Bundle.tN "UNASSIGNED_STACK" Bundle.steD A s s.heap) (hN : vx_Zq Bundle.tN "SUPPRESSED_SENTINEL" Bundle.listD A s s.heap) (hS : va_S A s.heap H locs) (hsize : ls.size = c.maxLocals)
    (d0 : decode cc pc = .ok (.new ik, 3)) (d3 : decode cc (pc + 3) = .ok (.dup, 1)) (d4 : decode cc (pc + 4) = .ok (.invokespecial ic, 3)) (d7 : decode cc (pc + 7) = .ok (.athrow, 1))
    (hout : ∀ x ∈ c.exceptionTable.toList, covers x (pc + 7) = false)
    (hRframes : names.length + 3 < R.frames) (hRlocals : (rest.map fun v => v.category).sum + (13 * (names.length + 1) + 42) ≤ R.locals) (hRcells : cells + 1 ≤ R.cells) (hRslots : slots + 6 ≤ R.slots) (hlocks : meth.locks = false)
    (hx : ∀ t : State, s.vm.Alike t.vm → H.size ≤ t.heap.size → (∀ q : Nat, q < H.size → t.heap[q]? = H[q]?) → XC cls s t)
    (hf : ∀ z ∈ locs, free z.base) (hc : cells + 1 ≤ mc) (hs : slots + 6 ≤ ms) :
    W p l e R s m args below meth c H locs cells slots (vx_MQ below Qc XC args s mc ms free) (F0 m pc ls rest) := by
  intro T hT X
  have htr : e.platform.stackTraces = false := (show e.platform.stackTraces = l.stackTraces by rw [X.admits.platform]).trans hl
  have Y := vx_rebase X (R' := { frames := R.frames, locals := R.locals, cells := 1, slots := 6 }) (Nat.le_refl _) (Nat.le_refl _) hRcells hRslots
  obtain ⟨s', hA⟩ : ∃ z, z = (T.setVm s.vm).setFrames (.invoking m args :: below) := ⟨_, rfl⟩
  rw [← hA] at Y
  have hvm : s'.vm = s.vm := by rw [hA]; rfl
  have hhp : s'.heap = H := by rw [hA]; exact hT
  have hW0 : s.WarmedH s'.vm := by rw [hvm]; exact State.WarmedH.refl s
  have hat' : ∀ w ∈ vx_at0 own ic cls names, w.before args s' = true := fun w hw => vx_ot_at hW0 hvm.symm (hgood w (List.mem_cons_of_mem _ (List.mem_cons_of_mem _ hw))) (hat w hw)
  have hk' : (Cond.classLink own ik cls).before args s' = true := vx_ot_at hW0 hvm.symm (hgood _ List.mem_cons_self) hk
  have hini' : (Cond.initialized cls).before args s' = true := vx_ot_at hW0 hvm.symm (hgood _ (List.mem_cons_of_mem _ List.mem_cons_self)) hini
  have hU' : vx_Zq Bundle.tN "UNASSIGNED_STACK" Bundle.steD A s' s'.heap := by rw [hhp]; exact vx_Zq.moved hW0.alike (hU.kept hS.2.1)
  have hN' : vx_Zq Bundle.tN "SUPPRESSED_SENTINEL" Bundle.listD A s' s'.heap := by rw [hhp]; exact vx_Zq.moved hW0.alike (hN.kept hS.2.1)
  have h : ∀ w ∈ Bundle.ownAtoms0 own ic cls names, w.before args s' = true := vx_own hat' (vx_isRefq hU'.1) (vx_isRefq hN'.1) hU'.2.word hN'.2.word
  have hown' : s'.vm.findClass own = some m.cls := by rw [hvm]; exact hown
  have hins : (Cond.instantiable cls 6).before args s' = true := h _ (by simp [Bundle.ownAtoms0])
  obtain ⟨vm₁, cX, kX, hfX, hkX, -, -, X₁, st1⟩ := Y.newCold hexec (own := own) (C := cls) (index := ik) (n := 6) hown' hk' hins hini'
    (g := F0 m pc ls rest) rfl (by rw [hb]; exact d0) (Nat.le_refl _) (Nat.le_refl _)
  generalize hT1 : (T.setVm vm₁).pushCell { cls := cX, slots := kX.instanceTypes.map defaultValue, vm := .none } = T1 at X₁ st1
  have hcat : (Value.ref T.heap.size).category = 1 := rfl
  have hcellA : T1.heap[T.heap.size]? = some (freshCell cX kX) := by rw [← hT1]; exact State.heap_pushCell_size _ _
  have d3' : decode c.code (pc + 3) = .ok (.dup, 1) := by rw [hb]; exact d3
  obtain ⟨U, hsteps, hrun, hend, hW, hsame, ce, hce, hO⟩ := X₁.ctorThrow0 hexec htr (own := own) (cls := cls) (names := names) (ic := ic) hown' hcls hnames h (fun x hx => nomatch hx) hfX hkX hcellA (by rw [hhp, hT]; exact Nat.le_refl _)
    (g := { method := m, pc := pc + 4, locals := ls, stack := .ref T.heap.size :: .ref T.heap.size :: rest, locked := none }) rfl hsize rfl rfl (rest := rest) rfl
    (by rw [hb]; exact d4) (by rw [hb]; exact d7) hout hRframes (by simp only [List.map_cons, List.sum_cons, hcat]; omega) hlocks
  obtain ⟨f1, f2⟩ := vx_frame hsame
  rw [hhp] at f1 f2
  have hWs : s.WarmedH U.vm := State.WarmedH.trans hW0 hW
  have hcl : s.vm.findClass cls = some ce.cls := by
    have h9 := hO.cls
    rw [hvm] at h9
    exact h9
  have hall : s.sameButNew ({ U with vm := s.vm } : State) locs mc ms := by
    subst hA
    obtain ⟨e1, e2⟩ := hsame
    rw [State.setFrames_setFrames] at e1
    have h2 : (T.setVm s.vm).sameButNew ({ U with vm := s.vm } : State) [] (0 + 1) (0 + 6) := ⟨e1, e2⟩
    have h3 := X.same.trans h2
    rw [List.append_nil] at h3
    exact h3.mono hc hs
  refine ⟨U, ?_, .threw T.heap.size, hrun, hend, Or.inr ⟨T.heap.size, rfl, cls, ce, locs, hx U hWs.alike f1 (fun q hq => f2 q hq (fun z hz => nomatch hz)), hce, hO.vm, hcl, hWs, hall, hf⟩⟩
  refine st1 _ ?_
  show Steps p.tables e below (T1.setTop { method := m, pc := pc + 3, locals := ls, stack := .ref T.heap.size :: rest, locked := none }) _
  jvm_step X₁.here [X₁.here.top, hexec, d3', Value.category]
  exact hsteps
/-- 'throw new E("text")': new; dup; ldc; invokespecial; athrow -/
theorem vx_throwS {cc : ByteArray} {pc : Nat} (hexec : p.tables.exec = Jvm.exec) (hb : c.code = cc) (hl : l.stackTraces = false) {own cls text : String} {names : List String} {ik is ic mc ms sa : Nat} {A : Nat → Prop}
    (hown : s.vm.findClass own = some m.cls) (hcls : Bundle.fit cls = true) (hnames : ∀ n ∈ names, Bundle.fit n = true)
    (hk : (Cond.classLink own ik cls).before args s = true) (hini : (Cond.initialized cls).before args s = true) (hstr : vk_R own is text sa s) (hat : ∀ w ∈ vx_atS own ic cls names, w.before args s = true)
    (hgood : ∀ w ∈ Cond.classLink own ik cls :: Cond.initialized cls :: vx_atS own ic cls names, vx_ot w = true)
    (hU : vx_Zq Bundle.tN "UNASSIGNED_STACK" Bundle.steD A s s.heap) (hN : vx_Zq Bundle.tN "SUPPRESSED_SENTINEL" Bundle.listD A s s.heap) (hS : va_S A s.heap H locs) (hsize : ls.size = c.maxLocals)
    (d0 : decode cc pc = .ok (.new ik, 3)) (d3 : decode cc (pc + 3) = .ok (.dup, 1)) (d4 : decode cc (pc + 4) = .ok (.ldc is, 2)) (d6 : decode cc (pc + 6) = .ok (.invokespecial ic, 3)) (d9 : decode cc (pc + 9) = .ok (.athrow, 1))
    (hout : ∀ x ∈ c.exceptionTable.toList, covers x (pc + 9) = false)
    (hRframes : names.length + 3 < R.frames) (hRlocals : (rest.map fun v => v.category).sum + (13 * (names.length + 1) + 43) ≤ R.locals) (hRcells : cells + 1 ≤ R.cells) (hRslots : slots + 6 ≤ R.slots) (hlocks : meth.locks = false)
    (hx : ∀ t : State, s.vm.Alike t.vm → H.size ≤ t.heap.size → (∀ q : Nat, q < H.size → t.heap[q]? = H[q]?) → XC cls s t)
    (hf : ∀ z ∈ locs, free z.base) (hc : cells + 1 ≤ mc) (hs : slots + 6 ≤ ms) :
    W p l e R s m args below meth c H locs cells slots (vx_MQ below Qc XC args s mc ms free) (F0 m pc ls rest) := by
  intro T hT X
  have htr : e.platform.stackTraces = false := (show e.platform.stackTraces = l.stackTraces by rw [X.admits.platform]).trans hl
  have Y := vx_rebase X (R' := { frames := R.frames, locals := R.locals, cells := 1, slots := 6 }) (Nat.le_refl _) (Nat.le_refl _) hRcells hRslots
  obtain ⟨s', hA⟩ : ∃ z, z = (T.setVm s.vm).setFrames (.invoking m args :: below) := ⟨_, rfl⟩
  rw [← hA] at Y
  have hvm : s'.vm = s.vm := by rw [hA]; rfl
  have hhp : s'.heap = H := by rw [hA]; exact hT
  have hW0 : s.WarmedH s'.vm := by rw [hvm]; exact State.WarmedH.refl s
  have hat' : ∀ w ∈ vx_atS own ic cls names, w.before args s' = true := fun w hw => vx_ot_at hW0 hvm.symm (hgood w (List.mem_cons_of_mem _ (List.mem_cons_of_mem _ hw))) (hat w hw)
  have hk' : (Cond.classLink own ik cls).before args s' = true := vx_ot_at hW0 hvm.symm (hgood _ List.mem_cons_self) hk
  have hini' : (Cond.initialized cls).before args s' = true := vx_ot_at hW0 hvm.symm (hgood _ (List.mem_cons_of_mem _ List.mem_cons_self)) hini
  have hU' : vx_Zq Bundle.tN "UNASSIGNED_STACK" Bundle.steD A s' s'.heap := by rw [hhp]; exact vx_Zq.moved hW0.alike (hU.kept hS.2.1)
  have hN' : vx_Zq Bundle.tN "SUPPRESSED_SENTINEL" Bundle.listD A s' s'.heap := by rw [hhp]; exact vx_Zq.moved hW0.alike (hN.kept hS.2.1)
  have h : ∀ w ∈ Bundle.ownAtoms own ic cls names, w.before args s' = true := vx_own hat' (vx_isRefq hU'.1) (vx_isRefq hN'.1) hU'.2.word hN'.2.word
  have hown' : s'.vm.findClass own = some m.cls := by rw [hvm]; exact hown
  have hins : (Cond.instantiable cls 6).before args s' = true := h _ (by simp [Bundle.ownAtoms])
  obtain ⟨vm₁, cX, kX, hfX, hkX, -, -, X₁, st1⟩ := Y.newCold hexec (own := own) (C := cls) (index := ik) (n := 6) hown' hk' hins hini'
    (g := F0 m pc ls rest) rfl (by rw [hb]; exact d0) (Nat.le_refl _) (Nat.le_refl _)
  generalize hT1 : (T.setVm vm₁).pushCell { cls := cX, slots := kX.instanceTypes.map defaultValue, vm := .none } = T1 at X₁ st1
  have hcat : (Value.ref T.heap.size).category = 1 := rfl
  have hcellA : T1.heap[T.heap.size]? = some (freshCell cX kX) := by rw [← hT1]; exact State.heap_pushCell_size _ _
  have d3' : decode c.code (pc + 3) = .ok (.dup, 1) := by rw [hb]; exact d3
  have d4' : decode c.code (pc + 4) = .ok (.ldc is, 2) := by rw [hb]; exact d4
  have hstr' : vk_R own is text sa s' := vk_R.warm hW0 hstr
  obtain ⟨U, hsteps, hrun, hend, hW, hsame, ce, hce, hO⟩ := X₁.ctorThrowS hexec htr (own := own) (cls := cls) (names := names) (ic := ic) hown' hcls hnames h (fun x hx => nomatch hx) hfX hkX hcellA (by rw [hhp, hT]; exact Nat.le_refl _) (msg := .ref sa) rfl
    (g := { method := m, pc := pc + 6, locals := ls, stack := .ref sa :: .ref T.heap.size :: .ref T.heap.size :: rest, locked := none }) rfl hsize rfl rfl (rest := rest) rfl
    (by rw [hb]; exact d6) (by rw [hb]; exact d9) hout hRframes (by simp only [List.map_cons, List.sum_cons, hcat]; omega) hlocks
  obtain ⟨f1, f2⟩ := vx_frame hsame
  rw [hhp] at f1 f2
  have hWs : s.WarmedH U.vm := State.WarmedH.trans hW0 hW
  have hcl : s.vm.findClass cls = some ce.cls := by
    have h9 := hO.cls
    rw [hvm] at h9
    exact h9
  have hall : s.sameButNew ({ U with vm := s.vm } : State) locs mc ms := by
    subst hA
    obtain ⟨e1, e2⟩ := hsame
    rw [State.setFrames_setFrames] at e1
    have h2 : (T.setVm s.vm).sameButNew ({ U with vm := s.vm } : State) [] (0 + 1) (0 + 6) := ⟨e1, e2⟩
    have h3 := X.same.trans h2
    rw [List.append_nil] at h3
    exact h3.mono hc hs
  refine ⟨U, ?_, .threw T.heap.size, hrun, hend, Or.inr ⟨T.heap.size, rfl, cls, ce, locs, hx U hWs.alike f1 (fun q hq => f2 q hq (fun z hz => nomatch hz)), hce, hO.vm, hcl, hWs, hall, hf⟩⟩
  refine st1 _ ?_
  show Steps p.tables e below (T1.setTop { method := m, pc := pc + 3, locals := ls, stack := .ref T.heap.size :: rest, locked := none }) _
  jvm_step X₁.here [X₁.here.top, hexec, d3', Value.category]
  exact X₁.ldcString hexec (own := own) (text := text) (index := is) (a := sa) hown' hstr'.1 hstr'.2
    (g := { method := m, pc := pc + 4, locals := ls, stack := .ref T.heap.size :: .ref T.heap.size :: rest, locked := none }) rfl d4' _ hsteps
/-- 'throw new E("text")', the text by a wide index -/
theorem vx_throwSW {cc : ByteArray} {pc : Nat} (hexec : p.tables.exec = Jvm.exec) (hb : c.code = cc) (hl : l.stackTraces = false) {own cls text : String} {names : List String} {ik is ic mc ms sa : Nat} {A : Nat → Prop}
    (hown : s.vm.findClass own = some m.cls) (hcls : Bundle.fit cls = true) (hnames : ∀ n ∈ names, Bundle.fit n = true)
    (hk : (Cond.classLink own ik cls).before args s = true) (hini : (Cond.initialized cls).before args s = true) (hstr : vk_R own is text sa s) (hat : ∀ w ∈ vx_atS own ic cls names, w.before args s = true)
    (hgood : ∀ w ∈ Cond.classLink own ik cls :: Cond.initialized cls :: vx_atS own ic cls names, vx_ot w = true)
    (hU : vx_Zq Bundle.tN "UNASSIGNED_STACK" Bundle.steD A s s.heap) (hN : vx_Zq Bundle.tN "SUPPRESSED_SENTINEL" Bundle.listD A s s.heap) (hS : va_S A s.heap H locs) (hsize : ls.size = c.maxLocals)
    (d0 : decode cc pc = .ok (.new ik, 3)) (d3 : decode cc (pc + 3) = .ok (.dup, 1)) (d4 : decode cc (pc + 4) = .ok (.ldc_w is, 3)) (d7 : decode cc (pc + 7) = .ok (.invokespecial ic, 3)) (d10 : decode cc (pc + 10) = .ok (.athrow, 1))
    (hout : ∀ x ∈ c.exceptionTable.toList, covers x (pc + 10) = false)
    (hRframes : names.length + 3 < R.frames) (hRlocals : (rest.map fun v => v.category).sum + (13 * (names.length + 1) + 43) ≤ R.locals) (hRcells : cells + 1 ≤ R.cells) (hRslots : slots + 6 ≤ R.slots) (hlocks : meth.locks = false)
    (hx : ∀ t : State, s.vm.Alike t.vm → H.size ≤ t.heap.size → (∀ q : Nat, q < H.size → t.heap[q]? = H[q]?) → XC cls s t)
    (hf : ∀ z ∈ locs, free z.base) (hc : cells + 1 ≤ mc) (hs : slots + 6 ≤ ms) :
    W p l e R s m args below meth c H locs cells slots (vx_MQ below Qc XC args s mc ms free) (F0 m pc ls rest) := by
  intro T hT X
  have htr : e.platform.stackTraces = false := (show e.platform.stackTraces = l.stackTraces by rw [X.admits.platform]).trans hl
  have Y := vx_rebase X (R' := { frames := R.frames, locals := R.locals, cells := 1, slots := 6 }) (Nat.le_refl _) (Nat.le_refl _) hRcells hRslots
  obtain ⟨s', hA⟩ : ∃ z, z = (T.setVm s.vm).setFrames (.invoking m args :: below) := ⟨_, rfl⟩
  rw [← hA] at Y
  have hvm : s'.vm = s.vm := by rw [hA]; rfl
  have hhp : s'.heap = H := by rw [hA]; exact hT
  have hW0 : s.WarmedH s'.vm := by rw [hvm]; exact State.WarmedH.refl s
  have hat' : ∀ w ∈ vx_atS own ic cls names, w.before args s' = true := fun w hw => vx_ot_at hW0 hvm.symm (hgood w (List.mem_cons_of_mem _ (List.mem_cons_of_mem _ hw))) (hat w hw)
  have hk' : (Cond.classLink own ik cls).before args s' = true := vx_ot_at hW0 hvm.symm (hgood _ List.mem_cons_self) hk
  have hini' : (Cond.initialized cls).before args s' = true := vx_ot_at hW0 hvm.symm (hgood _ (List.mem_cons_of_mem _ List.mem_cons_self)) hini
  have hU' : vx_Zq Bundle.tN "UNASSIGNED_STACK" Bundle.steD A s' s'.heap := by rw [hhp]; exact vx_Zq.moved hW0.alike (hU.kept hS.2.1)
  have hN' : vx_Zq Bundle.tN "SUPPRESSED_SENTINEL" Bundle.listD A s' s'.heap := by rw [hhp]; exact vx_Zq.moved hW0.alike (hN.kept hS.2.1)
  have h : ∀ w ∈ Bundle.ownAtoms own ic cls names, w.before args s' = true := vx_own hat' (vx_isRefq hU'.1) (vx_isRefq hN'.1) hU'.2.word hN'.2.word
  have hown' : s'.vm.findClass own = some m.cls := by rw [hvm]; exact hown
  have hins : (Cond.instantiable cls 6).before args s' = true := h _ (by simp [Bundle.ownAtoms])
  obtain ⟨vm₁, cX, kX, hfX, hkX, -, -, X₁, st1⟩ := Y.newCold hexec (own := own) (C := cls) (index := ik) (n := 6) hown' hk' hins hini'
    (g := F0 m pc ls rest) rfl (by rw [hb]; exact d0) (Nat.le_refl _) (Nat.le_refl _)
  generalize hT1 : (T.setVm vm₁).pushCell { cls := cX, slots := kX.instanceTypes.map defaultValue, vm := .none } = T1 at X₁ st1
  have hcat : (Value.ref T.heap.size).category = 1 := rfl
  have hcellA : T1.heap[T.heap.size]? = some (freshCell cX kX) := by rw [← hT1]; exact State.heap_pushCell_size _ _
  have d3' : decode c.code (pc + 3) = .ok (.dup, 1) := by rw [hb]; exact d3
  have d4' : decode c.code (pc + 4) = .ok (.ldc_w is, 3) := by rw [hb]; exact d4
  have hstr' : vk_R own is text sa s' := vk_R.warm hW0 hstr
  obtain ⟨U, hsteps, hrun, hend, hW, hsame, ce, hce, hO⟩ := X₁.ctorThrowS hexec htr (own := own) (cls := cls) (names := names) (ic := ic) hown' hcls hnames h (fun x hx => nomatch hx) hfX hkX hcellA (by rw [hhp, hT]; exact Nat.le_refl _) (msg := .ref sa) rfl
    (g := { method := m, pc := pc + 7, locals := ls, stack := .ref sa :: .ref T.heap.size :: .ref T.heap.size :: rest, locked := none }) rfl hsize rfl rfl (rest := rest) rfl
    (by rw [hb]; exact d7) (by rw [hb]; exact d10) hout hRframes (by simp only [List.map_cons, List.sum_cons, hcat]; omega) hlocks
  obtain ⟨f1, f2⟩ := vx_frame hsame
  rw [hhp] at f1 f2
  have hWs : s.WarmedH U.vm := State.WarmedH.trans hW0 hW
  have hcl : s.vm.findClass cls = some ce.cls := by
    have h9 := hO.cls
    rw [hvm] at h9
    exact h9
  have hall : s.sameButNew ({ U with vm := s.vm } : State) locs mc ms := by
    subst hA
    obtain ⟨e1, e2⟩ := hsame
    rw [State.setFrames_setFrames] at e1
    have h2 : (T.setVm s.vm).sameButNew ({ U with vm := s.vm } : State) [] (0 + 1) (0 + 6) := ⟨e1, e2⟩
    have h3 := X.same.trans h2
    rw [List.append_nil] at h3
    exact h3.mono hc hs
  refine ⟨U, ?_, .threw T.heap.size, hrun, hend, Or.inr ⟨T.heap.size, rfl, cls, ce, locs, hx U hWs.alike f1 (fun q hq => f2 q hq (fun z hz => nomatch hz)), hce, hO.vm, hcl, hWs, hall, hf⟩⟩
  refine st1 _ ?_
  show Steps p.tables e below (T1.setTop { method := m, pc := pc + 3, locals := ls, stack := .ref T.heap.size :: rest, locked := none }) _
  jvm_step X₁.here [X₁.here.top, hexec, d3', Value.category]
  exact X₁.ldcStringW hexec (own := own) (text := text) (index := is) (a := sa) hown' hstr'.1 hstr'.2
    (g := { method := m, pc := pc + 4, locals := ls, stack := .ref T.heap.size :: .ref T.heap.size :: rest, locked := none }) rfl d4' _ hsteps
end Ends
section Bodies
variable {l : Launch}
theorem vx_ofW {y : MethodName} {ws ws' : List Cond} {rm : Room} {Pc : Array Value → State → Prop} {Qc : Array Value → State → Outcome → State → Prop} {XC : String → State → State → Prop} {mc ms : Nat} {free : Addr → Prop} {cc : ByteArray} {maxL : Nat} {ret : Option FieldType}
    (hy : plainName y.cls = true) (hw : ws = Cond.code y cc maxL ret :: ws')
    (body : ∀ p e s m args below meth c s₁, BodyLoose p l y (headSpec ws rm) cc maxL ret e s m args below meth c s₁ → c.maxLocals = maxL → (∀ x ∈ c.exceptionTable.toList, False) → Pc args s →
      W p l e (headSpec ws rm).room s m args below meth c s.heap [] 0 0 (vx_MQ below Qc XC args s mc ms free) (entryFrame m args maxL)) : vx_Met l y ws rm Pc Qc XC mc ms free := by
  refine MetFree.of_bodyS (code := cc) (maxLocals := maxL) (ret := ret) hy ?_ ?_
  · intro args s m h hn
    obtain ⟨meth, c, h1, h2, h3, h4, h5, h6, -, -⟩ := Cond.code_spec hn (atoms_spec (ws := ws) h _ (by rw [hw]; exact List.mem_cons_self))
    exact ⟨meth, c, h1, h2, h3, h4, h5, h6⟩
  · intro p e s m args below meth c s₁ B hml hP _
    have hh0 : s₁.heap = s.heap := by rw [B.state]; rfl
    have ht : ∀ x ∈ c.exceptionTable.toList, False := by
      obtain ⟨meth9, c9, h1, h2, -, -, -, -, h7, -⟩ := Cond.code_spec B.named (atoms_spec (ws := ws) B.pre _ (by rw [hw]; exact List.mem_cons_self))
      cases Option.some.inj (h1.symm.trans B.method)
      cases Option.some.inj (h2.symm.trans (Stand.of_body B).code)
      intro x hx
      rw [Array.isEmpty_iff.mp h7] at hx
      cases hx
    obtain ⟨t, a1, o, b1, b2, b3⟩ := body p e s m args below meth c s₁ B hml ht hP s₁ hh0 (Stand.of_body B)
    exact ⟨t, o, a1, b1, b2, b3⟩
/-- the table of a body with handlers -/
theorem vx_table {p : Program} {x y : MethodName} {S : Spec} {cc bytes : ByteArray} {maxL maxL' : Nat} {ret ret' : Option FieldType} {e : Env} {s s₁ : State} {m : MethodId} {args : Array Value} {below : List Frame} {meth : Method} {c : Code} {hh : List (Nat × Nat × Nat × Nat)}
    (B : BodyLoose p l y S cc maxL ret e s m args below meth c s₁) (h : (Cond.codeWith y bytes maxL' ret' hh).before args s = true) : c.exceptionTable.toList = tableOf hh := by
  obtain ⟨m9, meth9, c9, hn9, h1, h2, -, -, h6, -⟩ := Cond.codeWith_spec h
  cases Option.some.inj (hn9.symm.trans B.named)
  cases Option.some.inj (h1.symm.trans B.method)
  cases Option.some.inj (h2.symm.trans (Stand.of_body B).code)
  rw [← h6, table_eq]
end Bodies
end VXA
/-! ===== END ===== -/
/-! ===== BEGIN a static call of a method with an exception table ===== -/
section VXS
variable {p : Program} {l : Launch} {e : Env} {R : Room} {s : State} {m : MethodId} {args : Array Value} {below : List Frame} {meth : Method} {c : Code} {T : State} {H : Heap} {locs : List Loc} {cells slots : Nat}
abbrev vx_CSW (R : Room) (s : State) (args : Array Value) (own : String) (index : Nat) (y : MethodName) (bytes : ByteArray) (maxL : Nat) (ret : Option FieldType) (hh : List (Nat × Nat × Nat × Nat)) (ws : List Cond) (rm : Room) (mc ms n : Nat) : Prop :=
  (rm.cells = mc ∧ rm.slots = ms ∧ rm.frames + 1 ≤ R.frames ∧ 8 + (maxL + 11) + rm.locals ≤ R.locals ∧ (∀ w ∈ ws, ∀ (a' : Array Value) (U : State), s.WarmedH U.vm → w.before a' U = true) ∧ Cond.codeWith y bytes maxL ret hh ∈ ws) ∧
  (Cond.codeWith y bytes maxL ret hh).before args s = true ∧ (Cond.initialized y.cls).before args s = true ∧ (y.cls ≠ "java/lang/invoke/MethodHandle" ∧ y.cls ≠ "java/lang/invoke/VarHandle") ∧
  (∀ sig, parseMethodDescriptor y.desc = some sig → n = sig.parameters.length) ∧ (Cond.methodLink own index y).before args s = true ∧ (Cond.static y).before args s = true
theorem vx_cwSW {own : String} {index maxL mc ms : Nat} {y : MethodName} {bytes : ByteArray} {ret : Option FieldType} {hh : List (Nat × Nat × Nat × Nat)} {Ts ws ws' : List Cond} {rm : Room} (n : Nat) (ht : ∀ w ∈ Ts, w.before args s = true) (hT : GoodIn Ts (va_wsS own index y ws)) (hw : ws = Cond.codeWith y bytes maxL ret hh :: ws') (hrc : rm.cells = mc) (hrs : rm.slots = ms)
    (hd : y.cls ≠ "java/lang/invoke/MethodHandle" ∧ y.cls ≠ "java/lang/invoke/VarHandle" ∧ (parseMethodDescriptor y.desc).map (fun d => d.parameters.length) = some n) (hR : rm.frames + 1 ≤ R.frames ∧ 8 + (maxL + 11) + rm.locals ≤ R.locals) :
    vx_CSW R s args own index y bytes maxL ret hh ws rm mc ms n := by
  have ok : ∀ w ∈ va_wsS own index y ws, w.before args s = true := fun w h => ht w (hT w h).1
  have hG : GoodIn Ts ws := fun w h => hT w (by unfold va_wsS; exact List.mem_append_right _ h)
  have hc : Cond.codeWith y bytes maxL ret hh ∈ ws := by rw [hw]; exact List.mem_cons_self
  refine ⟨⟨hrc, hrs, hR.1, hR.2, pay_in ht hG, hc⟩, ht _ (hG _ hc).1, ok _ (by simp [va_wsS]), ⟨hd.1, hd.2.1⟩, fun sig h => ?_, ok _ (by simp [va_wsS]), ok _ (by simp [va_wsS])⟩
  have h2 := hd.2.2
  rw [h] at h2
  exact (Option.some.inj h2).symm
theorem vx_callSW (X : Stand p l e R s m args below meth c T locs cells slots) (hexec : p.tables.exec = Jvm.exec) {own : String} {index : Nat} {y : MethodName} {bytes : ByteArray} {maxL : Nat} {ret : Option FieldType} {hh : List (Nat × Nat × Nat × Nat)}
    (hown : s.vm.findClass own = some m.cls) (hlink : (Cond.methodLink own index y).before args s = true) (hstat : (Cond.static y).before args s = true) (hinit : (Cond.initialized y.cls).before args s = true)
    (hcode : (Cond.codeWith y bytes maxL ret hh).before args s = true) (hy : y.cls ≠ "java/lang/invoke/MethodHandle" ∧ y.cls ≠ "java/lang/invoke/VarHandle")
    {W9 : Nat} {Pre : Pt → Array Value → Prop} {Post : Pt → Array Value → Option Value → Pt → Prop} (hK : Back l R p e below s args y 3 W9 Pre Post)
    {g : JFrame} (hg : g.method = m) (hsize : g.locals.size = c.maxLocals) {argsL rest : List Value} (hlen : ∀ sig, parseMethodDescriptor y.desc = some sig → argsL.length = sig.parameters.length)
    (hstack : g.stack = argsL.reverse ++ rest) (hW : 2 * g.monitorRoom + (rest.map fun v => v.category).sum ≤ W9) (hdg : decode c.code g.pc = .ok (.invokestatic index, 3))
    (hpre : ∀ vm₁, s.WarmedH vm₁ → Pre ⟨T.setVm vm₁, locs, cells, slots⟩ argsL.toArray) :
    ∃ (v : Option Value) (vm₁ : Vm) (B : Pt), s.WarmedH vm₁ ∧ Stand p l e R s m args below meth c B.U B.locs B.cells B.slots ∧ Post ⟨T.setVm vm₁, locs, cells, slots⟩ argsL.toArray v B ∧
      ∀ target, Steps p.tables e below (B.U.setTop { g with pc := g.pc + 3, stack := v.toList ++ rest }) target → Steps p.tables e below (T.setTop g) target := by
  obtain ⟨mk, methM, cM, hnamed, hmethM, -, -, -, -, -, -, hsigM⟩ := Cond.codeWith_spec hcode
  have hstatic : methM.isStatic = true := Cond.static_spec hnamed hmethM hstat
  obtain ⟨kP, hkP, -⟩ := className_of_methodNamed hnamed
  have hinitP : kP.init = .initialized := Cond.initialized_spec (findClass_of_methodNamed hnamed) hkP hinit
  obtain ⟨vm₁, X₁, hstep₁⟩ := X.invokestatic hexec hown hlink hnamed hmethM hstatic hkP hinitP hy (g := g) hg (argsL := argsL) (rest := rest) (hlen _ hsigM) hstack hdg
  obtain ⟨v, B, X', hpost, hsteps⟩ := hK m meth c ⟨T.setVm vm₁, locs, cells, slots⟩ { g with stack := rest } (.invokestatic index) mk argsL.toArray X₁ hg hsize hdg hW (X₁.named hnamed) (hpre vm₁ X₁.warmed)
  exact ⟨v, vm₁, B, X₁.warmed, X', hpost, fun target h => hstep₁ _ fun acts => by rw [doInvoke_state]; exact hsteps.trans h⟩
theorem vx_runSW {y : MethodName} {bytes cc : ByteArray} {maxL nL mc ms n index : Nat} {ret : Option FieldType} {hh : List (Nat × Nat × Nat × Nat)} {ws : List Cond} {rm : Room} {Pc : Array Value → State → Prop} {Qc : Array Value → State → Outcome → State → Prop} {free : Addr → Prop} {Ts : List Cond} {own : String} {As rest : List Value} {g : JFrame}
    (S : CallFix p m c cc nL s args Ts own) (hM : Met l y ws rm Pc Qc mc ms free) (cw : vx_CSW R s args own index y bytes maxL ret hh ws rm mc ms n) (hp : PreS s H Pc As)
    (hg : g.method = m) (hn : As.length = n) (hsize : g.locals.size = nL) (hstack : g.stack = As.reverse ++ rest) (hW : 2 * g.monitorRoom + (rest.map fun v => v.category).sum ≤ 8) (hdg : decode cc g.pc = .ok (.invokestatic index, 3)) (hf : cells + mc ≤ R.cells ∧ slots + ms ≤ R.slots) :
    va_Run p l e R s m args below meth c H locs cells slots mc ms g rest (Qc As.toArray) (free) := by
  obtain ⟨⟨hrc, hrs, hfr, hlo, hws, hcw⟩, hcode, hini, hy, hlen, hl, hstt⟩ := cw
  have hK : Back l R p e below s args y 3 8 (PreOf R mc ms Pc) (PostOf Qc mc ms free) := va_backW (hh := hh) (bytes := bytes) (maxL := maxL) (ret := ret) hM hp.1 hrc hrs hfr hlo hws hcw (fun a' U hW => word_at hW (Or.inl (by first | rfl | simp [Cond.onTables, Cond.keeps, Cond.steady])) hini)
  obtain ⟨hx, hb, hml, ho, -⟩ := S
  intro T hT X
  obtain ⟨v, vm₁, ⟨U', l2, c2, s2⟩, hW₁, X', ⟨g', mk, t, L, e1, e2, hq, h1, hL, h2, h3⟩, st⟩ := vx_callSW X hx (hh := hh) (bytes := bytes) (maxL := maxL) (ret := ret) ho hl hstt hini hcode hy hK hg (hsize.trans hml.symm) (argsL := As) (rest := rest) (fun sig h => hn.trans (hlen sig h)) hstack hW (by rw [hb]; exact hdg)
    (fun vm₁ hW₁ => ⟨hf.1, hf.2, hp.2 (T.setVm vm₁) hT hW₁⟩)
  dsimp only [Pt.U, Pt.locs, Pt.cells, Pt.slots] at X' e1 e2 h1 h2 h3 st
  subst h1; subst h2; subst h3
  exact ⟨v, (T.setVm vm₁).calling g' mk As.toArray, t, U', L, hT, X', hL, e1, e2, hq, st⟩
/-- not caught here, past rows that name other classes: it goes on to the caller -/
theorem vx_outP {p : Program} {l : Launch} {e : Env} {R : Room} {s : State} {m : MethodId} {args : Array Value} {below : List Frame} {meth : Method} {c : Code} {H : Heap} {locs : List Loc} {cells slots : Nat} {free : Addr → Prop} {ls : Array Slot} {rest : List Value} {Qc : Array Value → State → Outcome → State → Prop} {XC : String → State → State → Prop}
    {pc : Nat} {own E : String} {ce : Cell} {q : Addr} {mc ms : Nat} (hown : s.vm.findClass own = some m.cls) (hlocks : meth.locks = false)
    (hpass : ∀ z ∈ c.exceptionTable.toList, covers z pc = false ∨ (z.catchType ≠ 0 ∧ ∃ nm : String, (Cond.classLink own z.catchType nm).before args s = true ∧ va_Nc E nm s)) (hcell : H[q]? = some ce) (hv : ce.vm = .none) (hcl : s.vm.findClass E = some ce.cls)
    (hx : ∀ t : State, t.heap = H → s.vm.Alike t.vm → XC E s t) (hf : ∀ z ∈ locs, free z.base) (hc : cells ≤ mc) (hs : slots ≤ ms) :
    vx_W p l e R s m args below meth c H locs cells slots (vx_MQ below Qc XC args s mc ms free) (F0 m pc ls rest) q := by
  intro T hT X
  have hpl : e.platform.magicAccessors = ({} : Platform).magicAccessors := by rw [X.admits.platform]
  obtain ⟨vm', hW', X', st⟩ := X.outThrough hlocks q (g := F0 m pc ls rest) rfl rfl rfl (cell := ce) (by rw [hT]; exact hcell) (by rw [hv]; rfl)
    (by obtain ⟨k9, h9, -⟩ := Vm.findClass_spec hcl; exact ⟨k9, h9⟩) (fun z hz => by
      rcases hpass z hz with h | ⟨hz0, nm, hl1, hn1⟩
      · exact Or.inl h
      · obtain ⟨c6, hc6, hcl6⟩ := Cond.classLink_spec hown hl1 e.platform hpl
        obtain ⟨a8, b8, h1, h2, h3⟩ := hn1
        cases Option.some.inj (h1.symm.trans hcl)
        cases Option.some.inj (h2.symm.trans hc6)
        exact Or.inr ⟨hz0, _, hcl6, h3⟩)
  obtain ⟨g₀, hfr⟩ := X'.frames_eq
  have hcell9 : ((T.setVm vm').setFrames (.throwing q :: below)).heap[q]? = some ce := by
    show T.heap[q]? = some ce
    rw [hT]; exact hcell
  have hend : Ended ((T.setVm vm').setFrames (.throwing q :: below)) below (.threw q) := State.frames_setFrames _ (State.cur_lt_of_frames hfr)
  refine ⟨(T.setVm vm').setFrames (.throwing q :: below), ?_, .threw q, X'.here.running, hend, Or.inr ⟨q, rfl, E, ce, locs, hx _ hT (X'.ends _).1.alike, hcell9, hv, hcl, (X'.ends _).1, (X'.ends _).2.mono hc hs, hf⟩⟩
  rw [X.pushThrowing_eq]
  exact st
/-- a thing of a world lies in the heap -/
theorem vx_lt {D : va_G} {cl : List vw_C} {ws : va_W} {H1 : Heap} (h : va_P D cl ws H1) {k : Nat} {q : Nat × va_E} (hk : ws[k]? = some q) : q.1 < H1.size := (h k q hk).lt
end VXS
/-! ===== END ===== -/
/-! ===== BEGIN methods with a table of their own: called by a name, returning or throwing ===== -/
section VXH
/-! vx_backW, vx_callVX, vx_callSX, vx_callVW, vx_runVW, vx_runVX, vx_runSX, vx_ofWH follow the same proofs as their sisters above (Free/Laws.lean, Shelf42/LK1.lean); vx_outP calls Shelf42/NT130.lean (outThrough). -/
section
variable {l : Launch} {R : Room} {p : Program} {e : Env} {below : List Frame} {s : State} {sargs : Array Value} {y : MethodName} {len W9 : Nat}
theorem vx_backW {ws : List Cond} {rm : Room} {Pc : Array Value → State → Prop} {Qc : Array Value → State → Outcome → State → Prop} {XC : String → State → State → Prop} {mc ms : Nat} {free : Addr → Prop} {bytes : ByteArray} {maxL : Nat} {ret : Option FieldType} {hh : List (Nat × Nat × Nat × Nat)}
    (hM : vx_Met l y ws rm Pc Qc XC mc ms free) (hblind : FrameBlind Pc) (hrc : rm.cells = mc) (hrs : rm.slots = ms)
    (hframes : rm.frames + 1 ≤ R.frames) (hlocals : W9 + (maxL + 11) + rm.locals ≤ R.locals)
    (hws : ∀ w ∈ ws, ∀ a' U, s.WarmedH U.vm → w.before a' U = true) (hcode : Cond.codeWith y bytes maxL ret hh ∈ ws) (hinit : ∀ a' U, s.WarmedH U.vm → (Cond.initialized y.cls).before a' U = true) :
    vx_Back l R p e below s sargs y len W9 (PreOf R mc ms Pc) (PostOf Qc mc ms free) (vx_Post XC mc ms free) := by
  intro m meth c A g ig mk a X hg hsize hdg hW hn hp
  have h1 : (headSpec ws rm).pre.before a A.U = true := atoms_intro fun w hw => hws w hw _ _ X.warmed
  have h2 : (Cond.codeWith y bytes maxL ret hh).before a A.U = true := hws _ hcode _ _ X.warmed
  have h3 : (Cond.initialized y.cls).before a A.U = true := hinit _ _ X.warmed
  have h4 : A.cells + (headSpec ws rm).room.cells ≤ R.cells := by rw [show (headSpec ws rm).room.cells = mc from hrc]; exact hp.1
  have h5 : A.slots + (headSpec ws rm).room.slots ≤ R.slots := by rw [show (headSpec ws rm).room.slots = ms from hrs]; exact hp.2.1
  have hPc : Pc a (A.U.calling g mk a) := hblind _ _ _ _ hp.2.2
  obtain ⟨U, Ls, c0, s0⟩ := A
  dsimp only [Pt.U, Pt.locs, Pt.cells, Pt.slots] at h1 h2 h3 h4 h5 X hn hPc ⊢
  obtain ⟨m9, methY, cY, hn9, hmY, hcY, -, hlY, -⟩ := Cond.codeWith_spec h2
  cases Option.some.inj (hn9.symm.trans hn)
  obtain ⟨kY, hkY, -⟩ := className_of_methodNamed hn
  have hinitY : kY.init = .initialized := Cond.initialized_spec (findClass_of_methodNamed hn) hkY h3
  have h : At U g.method c below := by rw [hg]; exact X.here
  have hlocals9 : W9 + (maxL + 11) + (headSpec ws rm).room.locals ≤ R.locals := hlocals
  have happ : (headSpec ws rm).appliesLoose y e.platform (U.calling g mk a) = true :=
    Spec.appliesLoose_calling (g := g) h hdg hn hkY hinitY
      (X.room_calling (g := g) (R' := (headSpec ws rm).room) hsize hmY hcY hframes (by rw [hlY]; omega) h4 h5) h1
  obtain ⟨mid, hmid⟩ := h.above
  have hfr : (U.setTop g).frames = (.java g :: mid) ++ below := by rw [State.frames_setTop' g h.top, hmid]; rfl
  obtain ⟨o, s₂, hsteps, -, hend, hq⟩ := Steps.callFree hM p X.admits X.cas X.clock (acts := []) hfr happ hPc trivial
  have hq' : vx_Q Qc XC mc ms free a (U.calling g mk a) o s₂ := hq
  rw [State.frames_setTop' g h.top] at hend
  obtain ⟨g₀, hg0⟩ := Option.isSome_iff_exists.mp h.top
  obtain ⟨r, hr⟩ := State.topJava?_eq_some.mp hg0
  have hr' : (({ U with heap := s₂.heap, slotsUsed := s₂.slotsUsed } : State).setVm s₂.vm).frames = .java g₀ :: r := hr
  rcases hq' with ⟨hqc, L, hfe, hL⟩ | ⟨q, rfl, E, ce, L, hx, hce, hcv, hcl, hW₂, hsm, hL⟩
  · obtain ⟨⟨v, rfl⟩, hW₂, e2, q2, q3, q4, q5, q6⟩ := id hfe
    have e3 : s₂ = ({ (U.calling g mk a).setFrames s₂.frames with heap := s₂.heap, slotsUsed := s₂.slotsUsed } : State).setVm s₂.vm := by
      have : s₂ = ({ s₂ with vm := (U.calling g mk a).vm } : State).setVm s₂.vm := rfl
      rw [e2] at this
      exact this
    obtain ⟨c₂, i₂, len₂, hc₂, hd₂, hf₂⟩ := hend
    have hW' : U.WarmedH s₂.vm := hW₂
    have hcc : c₂ = c := by
      have h1 : s₂.code? g.method = U.code? g.method := by
        rw [State.code?_eq, State.code?_eq, hW'.alike.method?]
      exact Option.some.inj (hc₂.symm.trans (h1.trans h.code))
    subst hcc
    have hlen : len₂ = len := by rw [hdg] at hd₂; cases hd₂; rfl
    subst hlen
    have hs₂ : s₂ = (({ U with heap := s₂.heap, slotsUsed := s₂.slotsUsed } : State).setVm s₂.vm).setTop { g with pc := g.pc + len₂, stack := v.toList ++ g.stack } := by
      refine e3.trans ?_
      rw [hf₂, State.calling_eq h.top, State.setFrames_setFrames, State.setTop_of_frames _ hr', hr]
      rfl
    have hsame : U.sameButNew ({ U with heap := s₂.heap, slotsUsed := s₂.slotsUsed } : State) L mc ms := by
      refine ⟨?_, q2, q3, q4, q5, q6⟩
      obtain ⟨t, ht, -⟩ := State.frames_cons hr
      show ({ U with heap := s₂.heap, slotsUsed := s₂.slotsUsed } : State) = { U.setFrames U.frames with heap := s₂.heap, slotsUsed := s₂.slotsUsed }
      rw [State.setFrames_self ht]
    subst hg
    refine Or.inl ⟨v, ⟨(({ U with heap := s₂.heap, slotsUsed := s₂.slotsUsed } : State).setVm s₂.vm), Ls ++ L, c0 + mc, s0 + ms⟩,
      ⟨X.admits, X.cas, X.clock, X.frames, X.room, X.hears, X.method, X.code, (X.here.setHeapUsed s₂.heap s₂.slotsUsed).setVm hW'.alike, X.tail, State.WarmedH.trans X.warmed hW', X.limits, X.bytes, X.same.trans (hsame.setVm s.vm)⟩,
      ⟨g, mk, s₂, L, rfl, rfl, hqc, rfl, hL, rfl, rfl⟩, ?_⟩
    show Steps p.tables e below _ ((({ U with heap := s₂.heap, slotsUsed := s₂.slotsUsed } : State).setVm s₂.vm).setTop { g with pc := g.pc + len₂, stack := v.toList ++ g.stack })
    rw [← hs₂]
    exact hsteps
  · obtain ⟨e2, q2, q3, q4, q5, q6⟩ := id hsm
    have e3 : s₂ = ({ (U.calling g mk a).setFrames s₂.frames with heap := s₂.heap, slotsUsed := s₂.slotsUsed } : State).setVm s₂.vm := by
      have : s₂ = ({ s₂ with vm := (U.calling g mk a).vm } : State).setVm s₂.vm := rfl
      rw [e2] at this
      exact this
    have hf₂ : s₂.frames = .throwing q :: .java g :: U.frames.tail := hend
    have hW' : U.WarmedH s₂.vm := hW₂
    have hs₂ : s₂ = ((({ U with heap := s₂.heap, slotsUsed := s₂.slotsUsed } : State).setVm s₂.vm).setTop g).pushFrame (.throwing q) := by
      refine e3.trans ?_
      rw [hf₂, State.calling_eq h.top, State.setFrames_setFrames, State.pushFrame, State.frames_setTop _ hr', State.setTop_of_frames _ hr', State.setFrames_setFrames, hr]
      rfl
    have hsame : U.sameButNew ({ U with heap := s₂.heap, slotsUsed := s₂.slotsUsed } : State) L mc ms := by
      refine ⟨?_, q2, q3, q4, q5, q6⟩
      obtain ⟨t, ht, -⟩ := State.frames_cons hr
      show ({ U with heap := s₂.heap, slotsUsed := s₂.slotsUsed } : State) = { U.setFrames U.frames with heap := s₂.heap, slotsUsed := s₂.slotsUsed }
      rw [State.setFrames_self ht]
    subst hg
    refine Or.inr ⟨q, ⟨(({ U with heap := s₂.heap, slotsUsed := s₂.slotsUsed } : State).setVm s₂.vm), Ls ++ L, c0 + mc, s0 + ms⟩,
      ⟨X.admits, X.cas, X.clock, X.frames, X.room, X.hears, X.method, X.code, (X.here.setHeapUsed s₂.heap s₂.slotsUsed).setVm hW'.alike, X.tail, State.WarmedH.trans X.warmed hW', X.limits, X.bytes, X.same.trans (hsame.setVm s.vm)⟩,
      ⟨g, mk, s₂, L, E, ce, rfl, rfl, hx, hce, hcv, hcl, rfl, hL, rfl, rfl⟩, ?_⟩
    show Steps p.tables e below _ (((({ U with heap := s₂.heap, slotsUsed := s₂.slotsUsed } : State).setVm s₂.vm).setTop g).pushFrame (.throwing q))
    rw [← hs₂]
    exact hsteps
end
variable {p : Program} {l : Launch} {e : Env} {R : Room} {s : State} {m : MethodId} {args : Array Value} {below : List Frame} {meth : Method} {c : Code} {T : State} {H : Heap} {locs : List Loc} {cells slots : Nat}
theorem vx_callVX (X : Stand p l e R s m args below meth c T locs cells slots) (hexec : p.tables.exec = Jvm.exec) {own C : String} {index : Nat} {y : MethodName} {bytes : ByteArray} {maxL : Nat} {ret : Option FieldType} {hh : List (Nat × Nat × Nat × Nat)}
    (hown : s.vm.findClass own = some m.cls) (hlink : (Cond.methodLink own index y).before args s = true) (hinst : (Cond.instanceMethod y).before args s = true) (hsel : (Cond.selects C y y).before args s = true)
    (hcode : (Cond.codeWith y bytes maxL ret hh).before args s = true) (hy : y.cls ≠ "java/lang/invoke/MethodHandle" ∧ y.cls ≠ "java/lang/invoke/VarHandle")
    {W9 : Nat} {Pre : Pt → Array Value → Prop} {Post : Pt → Array Value → Option Value → Pt → Prop} {PostX : Pt → Array Value → Addr → Pt → Prop} (hK : vx_Back l R p e below s args y 3 W9 Pre Post PostX)
    {b : Addr} {cellB : Cell} (hcell : T.heap[b]? = some cellB) (hobj : cellB.vm.isStatics = false) (hcls : s.vm.findClass C = some cellB.cls)
    {g : JFrame} (hg : g.method = m) (hsize : g.locals.size = c.maxLocals) {argsL rest : List Value} (hlen : ∀ sig, parseMethodDescriptor y.desc = some sig → argsL.length = sig.parameters.length)
    (hstack : g.stack = argsL.reverse ++ .ref b :: rest) (hW : 2 * g.monitorRoom + (rest.map fun v => v.category).sum ≤ W9) (hdg : decode c.code g.pc = .ok (.invokevirtual index, 3))
    (hpre : ∀ vm₁, s.WarmedH vm₁ → Pre ⟨T.setVm vm₁, locs, cells, slots⟩ (Value.ref b :: argsL).toArray) :
    (∃ (v : Option Value) (vm₁ : Vm) (B : Pt), s.WarmedH vm₁ ∧ Stand p l e R s m args below meth c B.U B.locs B.cells B.slots ∧ Post ⟨T.setVm vm₁, locs, cells, slots⟩ (Value.ref b :: argsL).toArray v B ∧
      ∀ target, Steps p.tables e below (B.U.setTop { g with pc := g.pc + 3, stack := v.toList ++ rest }) target → Steps p.tables e below (T.setTop g) target) ∨
    (∃ (q : Addr) (vm₁ : Vm) (B : Pt), s.WarmedH vm₁ ∧ Stand p l e R s m args below meth c B.U B.locs B.cells B.slots ∧ PostX ⟨T.setVm vm₁, locs, cells, slots⟩ (Value.ref b :: argsL).toArray q B ∧
      Steps p.tables e below (T.setTop g) ((B.U.setTop { g with stack := rest }).pushFrame (.throwing q))) := by
  obtain ⟨mk, methM, hnamed, hmethM, hstM, habM⟩ := Cond.instanceMethod_spec hinst
  obtain ⟨m8, methM', cM, hn8, hmethM', -, -, -, -, -, -, hsigM⟩ := Cond.codeWith_spec hcode
  cases Option.some.inj (hn8.symm.trans hnamed)
  cases hmethM.symm.trans hmethM'
  obtain ⟨c2, r2, m2, q1, q2, q3, q4, kP, hkP, hkPi⟩ := Cond.selects_spec hsel
  cases hcls.symm.trans q1
  cases (State.methodFound?_of_named hnamed hy).symm.trans q2
  cases hnamed.symm.trans q3
  have hselP : selectMethod e.platform s.vm cellB.cls mk = .method mk := by rw [Launch.admits_selectMethod X.admits]; exact q4
  obtain ⟨vm₁, X₁, hstep₁⟩ := X.invokevirtual hexec hown hlink hnamed hmethM hstM hkP hkPi hy (a := b) (cell := cellB) hcell
    (fun z h => by rw [h] at hobj; cases hobj) hselP hmethM habM hkP hkPi (g := g) hg (argsL := argsL) (rest := rest) (hlen _ hsigM) hstack hdg
  rcases hK m meth c ⟨T.setVm vm₁, locs, cells, slots⟩ { g with stack := rest } (.invokevirtual index) mk (Value.ref b :: argsL).toArray X₁ hg hsize hdg hW (X₁.named hnamed) (hpre vm₁ X₁.warmed) with ⟨v, B, X', hpost, hsteps⟩ | ⟨q, B, X', hpost, hsteps⟩
  · exact Or.inl ⟨v, vm₁, B, X₁.warmed, X', hpost, fun target h => hstep₁ _ fun acts => by rw [doInvoke_state]; exact hsteps.trans h⟩
  · exact Or.inr ⟨q, vm₁, B, X₁.warmed, X', hpost, hstep₁ _ fun acts => by rw [doInvoke_state]; exact hsteps⟩
theorem vx_callSX (X : Stand p l e R s m args below meth c T locs cells slots) (hexec : p.tables.exec = Jvm.exec) {own : String} {index : Nat} {y : MethodName} {bytes : ByteArray} {maxL : Nat} {ret : Option FieldType} {hh : List (Nat × Nat × Nat × Nat)}
    (hown : s.vm.findClass own = some m.cls) (hlink : (Cond.methodLink own index y).before args s = true) (hstat : (Cond.static y).before args s = true) (hinit : (Cond.initialized y.cls).before args s = true)
    (hcode : (Cond.codeWith y bytes maxL ret hh).before args s = true) (hy : y.cls ≠ "java/lang/invoke/MethodHandle" ∧ y.cls ≠ "java/lang/invoke/VarHandle")
    {W9 : Nat} {Pre : Pt → Array Value → Prop} {Post : Pt → Array Value → Option Value → Pt → Prop} {PostX : Pt → Array Value → Addr → Pt → Prop} (hK : vx_Back l R p e below s args y 3 W9 Pre Post PostX)
    {g : JFrame} (hg : g.method = m) (hsize : g.locals.size = c.maxLocals) {argsL rest : List Value} (hlen : ∀ sig, parseMethodDescriptor y.desc = some sig → argsL.length = sig.parameters.length)
    (hstack : g.stack = argsL.reverse ++ rest) (hW : 2 * g.monitorRoom + (rest.map fun v => v.category).sum ≤ W9) (hdg : decode c.code g.pc = .ok (.invokestatic index, 3))
    (hpre : ∀ vm₁, s.WarmedH vm₁ → Pre ⟨T.setVm vm₁, locs, cells, slots⟩ argsL.toArray) :
    (∃ (v : Option Value) (vm₁ : Vm) (B : Pt), s.WarmedH vm₁ ∧ Stand p l e R s m args below meth c B.U B.locs B.cells B.slots ∧ Post ⟨T.setVm vm₁, locs, cells, slots⟩ argsL.toArray v B ∧
      ∀ target, Steps p.tables e below (B.U.setTop { g with pc := g.pc + 3, stack := v.toList ++ rest }) target → Steps p.tables e below (T.setTop g) target) ∨
    (∃ (q : Addr) (vm₁ : Vm) (B : Pt), s.WarmedH vm₁ ∧ Stand p l e R s m args below meth c B.U B.locs B.cells B.slots ∧ PostX ⟨T.setVm vm₁, locs, cells, slots⟩ argsL.toArray q B ∧
      Steps p.tables e below (T.setTop g) ((B.U.setTop { g with stack := rest }).pushFrame (.throwing q))) := by
  obtain ⟨mk, methM, cM, hnamed, hmethM, -, -, -, -, -, -, hsigM⟩ := Cond.codeWith_spec hcode
  have hstatic : methM.isStatic = true := Cond.static_spec hnamed hmethM hstat
  obtain ⟨kP, hkP, -⟩ := className_of_methodNamed hnamed
  have hinitP : kP.init = .initialized := Cond.initialized_spec (findClass_of_methodNamed hnamed) hkP hinit
  obtain ⟨vm₁, X₁, hstep₁⟩ := X.invokestatic hexec hown hlink hnamed hmethM hstatic hkP hinitP hy (g := g) hg (argsL := argsL) (rest := rest) (hlen _ hsigM) hstack hdg
  rcases hK m meth c ⟨T.setVm vm₁, locs, cells, slots⟩ { g with stack := rest } (.invokestatic index) mk argsL.toArray X₁ hg hsize hdg hW (X₁.named hnamed) (hpre vm₁ X₁.warmed) with ⟨v, B, X', hpost, hsteps⟩ | ⟨q, B, X', hpost, hsteps⟩
  · exact Or.inl ⟨v, vm₁, B, X₁.warmed, X', hpost, fun target h => hstep₁ _ fun acts => by rw [doInvoke_state]; exact hsteps.trans h⟩
  · exact Or.inr ⟨q, vm₁, B, X₁.warmed, X', hpost, hstep₁ _ fun acts => by rw [doInvoke_state]; exact hsteps⟩
theorem vx_callVW (X : Stand p l e R s m args below meth c T locs cells slots) (hexec : p.tables.exec = Jvm.exec) {own C : String} {index : Nat} {y : MethodName} {bytes : ByteArray} {maxL : Nat} {ret : Option FieldType} {hh : List (Nat × Nat × Nat × Nat)}
    (hown : s.vm.findClass own = some m.cls) (hlink : (Cond.methodLink own index y).before args s = true) (hinst : (Cond.instanceMethod y).before args s = true) (hsel : (Cond.selects C y y).before args s = true)
    (hcode : (Cond.codeWith y bytes maxL ret hh).before args s = true) (hy : y.cls ≠ "java/lang/invoke/MethodHandle" ∧ y.cls ≠ "java/lang/invoke/VarHandle")
    {W9 : Nat} {Pre : Pt → Array Value → Prop} {Post : Pt → Array Value → Option Value → Pt → Prop} (hK : Back l R p e below s args y 3 W9 Pre Post)
    {b : Addr} {cellB : Cell} (hcell : T.heap[b]? = some cellB) (hobj : cellB.vm.isStatics = false) (hcls : s.vm.findClass C = some cellB.cls)
    {g : JFrame} (hg : g.method = m) (hsize : g.locals.size = c.maxLocals) {argsL rest : List Value} (hlen : ∀ sig, parseMethodDescriptor y.desc = some sig → argsL.length = sig.parameters.length)
    (hstack : g.stack = argsL.reverse ++ .ref b :: rest) (hW : 2 * g.monitorRoom + (rest.map fun v => v.category).sum ≤ W9) (hdg : decode c.code g.pc = .ok (.invokevirtual index, 3))
    (hpre : ∀ vm₁, s.WarmedH vm₁ → Pre ⟨T.setVm vm₁, locs, cells, slots⟩ (Value.ref b :: argsL).toArray) :
    ∃ (v : Option Value) (vm₁ : Vm) (B : Pt), s.WarmedH vm₁ ∧ Stand p l e R s m args below meth c B.U B.locs B.cells B.slots ∧ Post ⟨T.setVm vm₁, locs, cells, slots⟩ (Value.ref b :: argsL).toArray v B ∧
      ∀ target, Steps p.tables e below (B.U.setTop { g with pc := g.pc + 3, stack := v.toList ++ rest }) target → Steps p.tables e below (T.setTop g) target := by
  obtain ⟨mk, methM, hnamed, hmethM, hstM, habM⟩ := Cond.instanceMethod_spec hinst
  obtain ⟨m8, methM', cM, hn8, hmethM', -, -, -, -, -, -, hsigM⟩ := Cond.codeWith_spec hcode
  cases Option.some.inj (hn8.symm.trans hnamed)
  cases hmethM.symm.trans hmethM'
  obtain ⟨c2, r2, m2, q1, q2, q3, q4, kP, hkP, hkPi⟩ := Cond.selects_spec hsel
  cases hcls.symm.trans q1
  cases (State.methodFound?_of_named hnamed hy).symm.trans q2
  cases hnamed.symm.trans q3
  have hselP : selectMethod e.platform s.vm cellB.cls mk = .method mk := by rw [Launch.admits_selectMethod X.admits]; exact q4
  obtain ⟨vm₁, X₁, hstep₁⟩ := X.invokevirtual hexec hown hlink hnamed hmethM hstM hkP hkPi hy (a := b) (cell := cellB) hcell
    (fun z h => by rw [h] at hobj; cases hobj) hselP hmethM habM hkP hkPi (g := g) hg (argsL := argsL) (rest := rest) (hlen _ hsigM) hstack hdg
  obtain ⟨v, B, X', hpost, hsteps⟩ := hK m meth c ⟨T.setVm vm₁, locs, cells, slots⟩ { g with stack := rest } (.invokevirtual index) mk (Value.ref b :: argsL).toArray X₁ hg hsize hdg hW (X₁.named hnamed) (hpre vm₁ X₁.warmed)
  exact ⟨v, vm₁, B, X₁.warmed, X', hpost, fun target h => hstep₁ _ fun acts => by rw [doInvoke_state]; exact hsteps.trans h⟩
abbrev vx_CVW (R : Room) (s : State) (args : Array Value) (own C : String) (index : Nat) (y : MethodName) (bytes : ByteArray) (maxL : Nat) (ret : Option FieldType) (hh : List (Nat × Nat × Nat × Nat)) (ws : List Cond) (rm : Room) (mc ms n : Nat) : Prop :=
  (rm.cells = mc ∧ rm.slots = ms ∧ rm.frames + 1 ≤ R.frames ∧ 8 + (maxL + 11) + rm.locals ≤ R.locals ∧ (∀ w ∈ ws, ∀ (a' : Array Value) (U : State), s.WarmedH U.vm → w.before a' U = true) ∧ Cond.codeWith y bytes maxL ret hh ∈ ws) ∧
  (Cond.codeWith y bytes maxL ret hh).before args s = true ∧ (Cond.initialized y.cls).before args s = true ∧ (y.cls ≠ "java/lang/invoke/MethodHandle" ∧ y.cls ≠ "java/lang/invoke/VarHandle") ∧
  (∀ sig, parseMethodDescriptor y.desc = some sig → n = sig.parameters.length) ∧ (Cond.methodLink own index y).before args s = true ∧ (Cond.instanceMethod y).before args s = true ∧ (Cond.selects C y y).before args s = true
theorem vx_cwVW {own C : String} {index maxL mc ms : Nat} {y : MethodName} {bytes : ByteArray} {ret : Option FieldType} {hh : List (Nat × Nat × Nat × Nat)} {Ts ws ws' : List Cond} {rm : Room} (n : Nat) (ht : ∀ w ∈ Ts, w.before args s = true) (hT : GoodIn Ts (wsV own index C y ws)) (hw : ws = Cond.codeWith y bytes maxL ret hh :: ws') (hrc : rm.cells = mc) (hrs : rm.slots = ms)
    (hd : y.cls = C ∧ y.cls ≠ "java/lang/invoke/MethodHandle" ∧ y.cls ≠ "java/lang/invoke/VarHandle" ∧ (parseMethodDescriptor y.desc).map (fun d => d.parameters.length) = some n) (hR : rm.frames + 1 ≤ R.frames ∧ 8 + (maxL + 11) + rm.locals ≤ R.locals) :
    vx_CVW R s args own C index y bytes maxL ret hh ws rm mc ms n := by
  obtain ⟨hC, hd⟩ := hd
  subst hC
  have ok : ∀ w ∈ wsV own index y.cls y ws, w.before args s = true := fun w h => ht w (hT w h).1
  have hG : GoodIn Ts ws := fun w h => hT w (by unfold wsV; exact List.mem_append_right _ h)
  have hc : Cond.codeWith y bytes maxL ret hh ∈ ws := by rw [hw]; exact List.mem_cons_self
  refine ⟨⟨hrc, hrs, hR.1, hR.2, pay_in ht hG, hc⟩, ht _ (hG _ hc).1, ok _ (by simp [wsV]), ⟨hd.1, hd.2.1⟩, fun sig h => ?_, ok _ (by simp [wsV]), ok _ (by simp [wsV]), ok _ (by simp [wsV])⟩
  have h2 := hd.2.2
  rw [h] at h2
  exact (Option.some.inj h2).symm
theorem vx_runVW {y : MethodName} {bytes cc : ByteArray} {maxL nL mc ms n index : Nat} {ret : Option FieldType} {hh : List (Nat × Nat × Nat × Nat)} {ws : List Cond} {rm : Room} {Pc : Array Value → State → Prop} {Qc : Array Value → State → Outcome → State → Prop} {free : Addr → Prop} {Ts : List Cond} {own C : String} {b : Addr} {As rest : List Value} {g : JFrame}
    (S : CallFix p m c cc nL s args Ts own) (hM : Met l y ws rm Pc Qc mc ms free) (cw : vx_CVW R s args own C index y bytes maxL ret hh ws rm mc ms n) (hp : PreV s H C b Pc As)
    (hg : g.method = m) (hn : As.length = n) (hsize : g.locals.size = nL) (hstack : g.stack = As.reverse ++ .ref b :: rest) (hW : 2 * g.monitorRoom + (rest.map fun v => v.category).sum ≤ 8) (hdg : decode cc g.pc = .ok (.invokevirtual index, 3)) (hf : cells + mc ≤ R.cells ∧ slots + ms ≤ R.slots) :
    va_Run p l e R s m args below meth c H locs cells slots mc ms g rest (Qc (Value.ref b :: As).toArray) free := by
  obtain ⟨⟨hrc, hrs, hfr, hlo, hws, hcw⟩, hcode, hini, hy, hlen, hl, hin, hse⟩ := cw
  have hK : Back l R p e below s args y 3 8 (PreOf R mc ms Pc) (PostOf Qc mc ms free) := va_backW (hh := hh) (bytes := bytes) (maxL := maxL) (ret := ret) hM hp.1 hrc hrs hfr hlo hws hcw (fun a' U hW => word_at hW (Or.inl (by first | rfl | simp [Cond.onTables, Cond.keeps, Cond.steady])) hini)
  obtain ⟨hx, hb, hml, ho, -⟩ := S
  obtain ⟨-, ⟨cellB, hcB, hoB, hclB⟩, hPc⟩ := hp
  intro T hT X
  obtain ⟨v, vm₁, ⟨U', l2, c2, s2⟩, hW₁, X', ⟨g', mk, t, L, e1, e2, hq, h1, hL, h2, h3⟩, st⟩ := vx_callVW X hx (C := C) (hh := hh) (bytes := bytes) (maxL := maxL) (ret := ret) ho hl hin hse hcode hy hK (by rw [hT]; exact hcB) hoB hclB hg (hsize.trans hml.symm) (argsL := As) (rest := rest) (fun sig h => hn.trans (hlen sig h)) hstack hW (by rw [hb]; exact hdg)
    (fun vm₁ hW₁ => ⟨hf.1, hf.2, hPc (T.setVm vm₁) hT hW₁⟩)
  dsimp only [Pt.U, Pt.locs, Pt.cells, Pt.slots] at X' e1 e2 h1 h2 h3 st
  subst h1; subst h2; subst h3
  exact ⟨v, (T.setVm vm₁).calling g' mk (Value.ref b :: As).toArray, t, U', L, hT, X', hL, e1, e2, hq, st⟩
section
variable {y : MethodName} {bytes cc : ByteArray} {maxL nL mc ms n index : Nat} {ret : Option FieldType} {ws : List Cond} {rm : Room} {Pc : Array Value → State → Prop} {Qc : Array Value → State → Outcome → State → Prop} {XC : String → State → State → Prop} {free : Addr → Prop} {Ts : List Cond} {own C : String} {b : Addr} {As rest : List Value} {g : JFrame}
theorem vx_runVX {hh : List (Nat × Nat × Nat × Nat)} (S : CallFix p m c cc nL s args Ts own) (hM : vx_Met l y ws rm Pc Qc XC mc ms free) (cw : vx_CVW R s args own C index y bytes maxL ret hh ws rm mc ms n) (hp : PreV s H C b Pc As)
    (hg : g.method = m) (hn : As.length = n) (hsize : g.locals.size = nL) (hstack : g.stack = As.reverse ++ .ref b :: rest) (hW : 2 * g.monitorRoom + (rest.map fun v => v.category).sum ≤ 8) (hdg : decode cc g.pc = .ok (.invokevirtual index, 3)) (hf : cells + mc ≤ R.cells ∧ slots + ms ≤ R.slots) :
    vx_Run p l e R s m args below meth c H locs cells slots mc ms g rest (Qc (Value.ref b :: As).toArray) XC free := by
  obtain ⟨⟨hrc, hrs, hfr, hlo, hws, hcw⟩, hcode, hini, hy, hlen, hl, hin, hse⟩ := cw
  have hK : vx_Back l R p e below s args y 3 8 (PreOf R mc ms Pc) (PostOf Qc mc ms free) (vx_Post XC mc ms free) := vx_backW (hh := hh) (bytes := bytes) (maxL := maxL) (ret := ret) hM hp.1 hrc hrs hfr hlo hws hcw (fun a' U hW => word_at hW (Or.inl (by first | rfl | simp [Cond.onTables, Cond.keeps, Cond.steady])) hini)
  obtain ⟨hx, hb, hml, ho, -⟩ := S
  obtain ⟨-, ⟨cellB, hcB, hoB, hclB⟩, hPc⟩ := hp
  intro T hT X
  rcases vx_callVX X hx (C := C) (hh := hh) (bytes := bytes) (maxL := maxL) (ret := ret) ho hl hin hse hcode hy hK (by rw [hT]; exact hcB) hoB hclB hg (hsize.trans hml.symm) (argsL := As) (rest := rest) (fun sig h => hn.trans (hlen sig h)) hstack hW (by rw [hb]; exact hdg)
    (fun vm₁ hW₁ => ⟨hf.1, hf.2, hPc (T.setVm vm₁) hT hW₁⟩) with ⟨v, vm₁, ⟨U', l2, c2, s2⟩, hW₁, X', ⟨g', mk, t, L, e1, e2, hq, h1, hL, h2, h3⟩, st⟩ | ⟨q, vm₁, ⟨U', l2, c2, s2⟩, hW₁, X', ⟨g', mk, t, L, E, ce, e1, e2, hq, hce, hcv, hcl, h1, hL, h2, h3⟩, st⟩
  · dsimp only [Pt.U, Pt.locs, Pt.cells, Pt.slots] at X' e1 e2 h1 h2 h3 st
    subst h1; subst h2; subst h3
    exact Or.inl ⟨v, (T.setVm vm₁).calling g' mk (Value.ref b :: As).toArray, t, U', L, hT, X', hL, e1, e2, hq, st⟩
  · dsimp only [Pt.U, Pt.locs, Pt.cells, Pt.slots] at X' e1 e2 h1 h2 h3 st hcl
    subst h1; subst h2; subst h3
    exact Or.inr ⟨q, (T.setVm vm₁).calling g' mk (Value.ref b :: As).toArray, t, U', L, E, ce, hT, X', hL, e1, e2, hq, hce, hcv, vx_cls hW₁ hcl, st⟩
theorem vx_runSX {hh : List (Nat × Nat × Nat × Nat)} (S : CallFix p m c cc nL s args Ts own) (hM : vx_Met l y ws rm Pc Qc XC mc ms free) (cw : vx_CSW R s args own index y bytes maxL ret hh ws rm mc ms n) (hp : PreS s H Pc As)
    (hg : g.method = m) (hn : As.length = n) (hsize : g.locals.size = nL) (hstack : g.stack = As.reverse ++ rest) (hW : 2 * g.monitorRoom + (rest.map fun v => v.category).sum ≤ 8) (hdg : decode cc g.pc = .ok (.invokestatic index, 3)) (hf : cells + mc ≤ R.cells ∧ slots + ms ≤ R.slots) :
    vx_Run p l e R s m args below meth c H locs cells slots mc ms g rest (Qc As.toArray) XC free := by
  obtain ⟨⟨hrc, hrs, hfr, hlo, hws, hcw⟩, hcode, hini, hy, hlen, hl, hstt⟩ := cw
  have hK : vx_Back l R p e below s args y 3 8 (PreOf R mc ms Pc) (PostOf Qc mc ms free) (vx_Post XC mc ms free) := vx_backW (hh := hh) (bytes := bytes) (maxL := maxL) (ret := ret) hM hp.1 hrc hrs hfr hlo hws hcw (fun a' U hW => word_at hW (Or.inl (by first | rfl | simp [Cond.onTables, Cond.keeps, Cond.steady])) hini)
  obtain ⟨hx, hb, hml, ho, -⟩ := S
  intro T hT X
  rcases vx_callSX X hx (hh := hh) (bytes := bytes) (maxL := maxL) (ret := ret) ho hl hstt hini hcode hy hK hg (hsize.trans hml.symm) (argsL := As) (rest := rest) (fun sig h => hn.trans (hlen sig h)) hstack hW (by rw [hb]; exact hdg)
    (fun vm₁ hW₁ => ⟨hf.1, hf.2, hp.2 (T.setVm vm₁) hT hW₁⟩) with ⟨v, vm₁, ⟨U', l2, c2, s2⟩, hW₁, X', ⟨g', mk, t, L, e1, e2, hq, h1, hL, h2, h3⟩, st⟩ | ⟨q, vm₁, ⟨U', l2, c2, s2⟩, hW₁, X', ⟨g', mk, t, L, E, ce, e1, e2, hq, hce, hcv, hcl, h1, hL, h2, h3⟩, st⟩
  · dsimp only [Pt.U, Pt.locs, Pt.cells, Pt.slots] at X' e1 e2 h1 h2 h3 st
    subst h1; subst h2; subst h3
    exact Or.inl ⟨v, (T.setVm vm₁).calling g' mk As.toArray, t, U', L, hT, X', hL, e1, e2, hq, st⟩
  · dsimp only [Pt.U, Pt.locs, Pt.cells, Pt.slots] at X' e1 e2 h1 h2 h3 st hcl
    subst h1; subst h2; subst h3
    exact Or.inr ⟨q, (T.setVm vm₁).calling g' mk As.toArray, t, U', L, E, ce, hT, X', hL, e1, e2, hq, hce, hcv, vx_cls hW₁ hcl, st⟩
end
end VXH
theorem vx_ofWH {l : Launch} {y : MethodName} {ws ws' : List Cond} {rm : Room} {Pc : Array Value → State → Prop} {Qc : Array Value → State → Outcome → State → Prop} {XC : String → State → State → Prop} {mc ms : Nat} {free : Addr → Prop} {cc : ByteArray} {maxL : Nat} {ret : Option FieldType} {hh : List (Nat × Nat × Nat × Nat)}
    (hy : plainName y.cls = true) (hw : ws = Cond.codeWith y cc maxL ret hh :: ws')
    (body : ∀ p e s m args below meth c s₁, BodyLoose p l y (headSpec ws rm) cc maxL ret e s m args below meth c s₁ → c.maxLocals = maxL → Pc args s →
      W p l e (headSpec ws rm).room s m args below meth c s.heap [] 0 0 (vx_MQ below Qc XC args s mc ms free) (entryFrame m args maxL)) : vx_Met l y ws rm Pc Qc XC mc ms free := by
  refine MetFree.of_bodyS (code := cc) (maxLocals := maxL) (ret := ret) hy ?_ ?_
  · intro args s m h hn
    obtain ⟨m9, meth, c, hn9, h1, h2, h3, h4, -, h5, h6, -⟩ := Cond.codeWith_spec (atoms_spec (ws := ws) h _ (by rw [hw]; exact List.mem_cons_self))
    cases hn.symm.trans hn9
    exact ⟨meth, c, h1, h2, h3, h4, h5, h6⟩
  · intro p e s m args below meth c s₁ B hml hP _
    have hh0 : s₁.heap = s.heap := by rw [B.state]; rfl
    obtain ⟨t, a1, o, b1, b2, b3⟩ := body p e s m args below meth c s₁ B hml hP s₁ hh0 (Stand.of_body B)
    exact ⟨t, o, a1, b1, b2, b3⟩
/-! ===== END ===== -/

def RX0 : String := "Quaylock$Cargo"
def TX0 : u_T := fun k => match k with
  | 0 => ("Quaylock$Cargo", "weights", "[I", true)
  | 1 => ("Quaylock$Cargo", "holdKinds", "[C", true)
  | 2 => ("Quaylock$Cargo", "holdEnds", "[I", true)
  | _ => ("Quaylock$Cargo", "come", "I", false)
def tyX0 : Nat → FieldType := fun k => match k with
  | 0 => .array .int
  | 1 => .array .char
  | 2 => .array .int
  | _ => .int
abbrev wsX00 : List Cond := u_ws RX0 TX0 4
theorem nmX0 : ∀ a, a < 4 → ∀ b, b < 4 → a ≠ b → (TX0 a).2.1 ≠ (TX0 b).2.1 := by decide +kernel
theorem tyX0_ok : ∀ k, k < 4 → parseFieldDescriptor (TX0 k).2.2.1 = some (tyX0 k) := by decide +kernel
abbrev cX0_init : ByteArray := prog_2_method_1_code
def yX0_init : MethodName := ⟨RX0, "<init>", "()V"⟩
abbrev cX0_come : ByteArray := prog_2_method_2_code
def yX0_come : MethodName := ⟨RX0, "come", "()I"⟩
abbrev cX0_register : ByteArray := prog_2_method_3_code
def yX0_register : MethodName := ⟨RX0, "register", "(I)I"⟩
abbrev cX0_weightOf : ByteArray := prog_2_method_4_code
def yX0_weightOf : MethodName := ⟨RX0, "weightOf", "(I)I"⟩
abbrev cX0_holdKind : ByteArray := prog_2_method_5_code
def yX0_holdKind : MethodName := ⟨RX0, "holdKind", "(I)C"⟩
abbrev cX0_holdEnd : ByteArray := prog_2_method_6_code
def yX0_holdEnd : MethodName := ⟨RX0, "holdEnd", "(I)I"⟩
abbrev cX0_isHeld : ByteArray := prog_2_method_7_code
def yX0_isHeld : MethodName := ⟨RX0, "isHeld", "(I)Z"⟩
abbrev cX0_isPinned : ByteArray := prog_2_method_8_code
def yX0_isPinned : MethodName := ⟨RX0, "isPinned", "(I)Z"⟩
abbrev cX0_isHeldIn : ByteArray := prog_2_method_9_code
def yX0_isHeldIn : MethodName := ⟨RX0, "isHeldIn", "(II)Z"⟩
abbrev cX0_putHold : ByteArray := prog_2_method_10_code
def yX0_putHold : MethodName := ⟨RX0, "putHold", "(ICI)V"⟩
abbrev cX0_endHold : ByteArray := prog_2_method_11_code
def yX0_endHold : MethodName := ⟨RX0, "endHold", "(I)V"⟩
abbrev cX0_endHoldsOf : ByteArray := prog_2_method_12_code
def yX0_endHoldsOf : MethodName := ⟨RX0, "endHoldsOf", "(I)V"⟩
def RX1 : String := "Quaylock$Gate"
def TX1 : u_T := fun k => match k with
  | 0 => ("Quaylock$Gate", "boxesOf", "[I", true)
  | 1 => ("Quaylock$Gate", "hours", "[I", true)
  | 2 => ("Quaylock$Gate", "lanes", "[I", true)
  | 3 => ("Quaylock$Gate", "states", "[C", true)
  | _ => ("Quaylock$Gate", "count", "I", false)
def tyX1 : Nat → FieldType := fun k => match k with
  | 0 => .array .int
  | 1 => .array .int
  | 2 => .array .int
  | 3 => .array .char
  | _ => .int
abbrev wsX10 : List Cond := u_ws RX1 TX1 5
theorem nmX1 : ∀ a, a < 5 → ∀ b, b < 5 → a ≠ b → (TX1 a).2.1 ≠ (TX1 b).2.1 := by decide +kernel
theorem tyX1_ok : ∀ k, k < 5 → parseFieldDescriptor (TX1 k).2.2.1 = some (tyX1 k) := by decide +kernel
abbrev cX1_init : ByteArray := prog_3_method_1_code
def yX1_init : MethodName := ⟨RX1, "<init>", "()V"⟩
abbrev cX1_count : ByteArray := prog_3_method_2_code
def yX1_count : MethodName := ⟨RX1, "count", "()I"⟩
abbrev cX1_register : ByteArray := prog_3_method_3_code
def yX1_register : MethodName := ⟨RX1, "register", "(III)I"⟩
abbrev cX1_has : ByteArray := prog_3_method_4_code
def yX1_has : MethodName := ⟨RX1, "has", "(I)Z"⟩
abbrev cX1_boxOf : ByteArray := prog_3_method_5_code
def yX1_boxOf : MethodName := ⟨RX1, "boxOf", "(I)I"⟩
abbrev cX1_hourOf : ByteArray := prog_3_method_6_code
def yX1_hourOf : MethodName := ⟨RX1, "hourOf", "(I)I"⟩
abbrev cX1_state : ByteArray := prog_3_method_7_code
def yX1_state : MethodName := ⟨RX1, "state", "(I)C"⟩
abbrev cX1_turn : ByteArray := prog_3_method_8_code
def yX1_turn : MethodName := ⟨RX1, "turn", "(IC)V"⟩
abbrev cX1_bookedFor : ByteArray := prog_3_method_9_code
def yX1_bookedFor : MethodName := ⟨RX1, "bookedFor", "(I)I"⟩
abbrev cX1_bookedAt : ByteArray := prog_3_method_10_code
def yX1_bookedAt : MethodName := ⟨RX1, "bookedAt", "(II)I"⟩
abbrev cX1_hasFreeLane : ByteArray := prog_3_method_11_code
def yX1_hasFreeLane : MethodName := ⟨RX1, "hasFreeLane", "(I)Z"⟩
abbrev cX1_countIn : ByteArray := prog_3_method_12_code
def yX1_countIn : MethodName := ⟨RX1, "countIn", "(C)I"⟩
def RX2 : String := "Quaylock$Heap"
def TX2 : u_T := fun k => match k with
  | 0 => ("Quaylock$Heap", "items", "[J", true)
  | _ => ("Quaylock$Heap", "size", "I", false)
def tyX2 : Nat → FieldType := fun k => match k with
  | 0 => .array .long
  | _ => .int
abbrev wsX20 : List Cond := u_ws RX2 TX2 2
theorem nmX2 : ∀ a, a < 2 → ∀ b, b < 2 → a ≠ b → (TX2 a).2.1 ≠ (TX2 b).2.1 := by decide +kernel
theorem tyX2_ok : ∀ k, k < 2 → parseFieldDescriptor (TX2 k).2.2.1 = some (tyX2 k) := by decide +kernel
abbrev cX2_init : ByteArray := prog_4_method_1_code
def yX2_init : MethodName := ⟨RX2, "<init>", "()V"⟩
abbrev cX2_isEmpty : ByteArray := prog_4_method_2_code
def yX2_isEmpty : MethodName := ⟨RX2, "isEmpty", "()Z"⟩
abbrev cX2_clear : ByteArray := prog_4_method_3_code
def yX2_clear : MethodName := ⟨RX2, "clear", "()V"⟩
abbrev cX2_add : ByteArray := prog_4_method_4_code
def yX2_add : MethodName := ⟨RX2, "add", "(J)V"⟩
abbrev cX2_takeFirst : ByteArray := prog_4_method_5_code
def yX2_takeFirst : MethodName := ⟨RX2, "takeFirst", "()J"⟩
abbrev cX2_sinkFromTop : ByteArray := prog_4_method_6_code
def yX2_sinkFromTop : MethodName := ⟨RX2, "sinkFromTop", "(J)V"⟩
def RX3 : String := "Quaylock$Planner"
def TX3 : u_T := fun k => match k with
  | 0 => ("Quaylock$Planner", "yard", "LQuaylock$Yard;", true)
  | 1 => ("Quaylock$Planner", "trial", "LQuaylock$Yard;", true)
  | 2 => ("Quaylock$Planner", "open", "LQuaylock$Heap;", true)
  | _ => ("Quaylock$Planner", "found", "J", false)
def tyX3 : Nat → FieldType := fun k => match k with
  | 0 => .object "Quaylock$Yard"
  | 1 => .object "Quaylock$Yard"
  | 2 => .object "Quaylock$Heap"
  | _ => .long
abbrev wsX30 : List Cond := u_ws RX3 TX3 4
theorem nmX3 : ∀ a, a < 4 → ∀ b, b < 4 → a ≠ b → (TX3 a).2.1 ≠ (TX3 b).2.1 := by decide +kernel
theorem tyX3_ok : ∀ k, k < 4 → parseFieldDescriptor (TX3 k).2.2.1 = some (tyX3 k) := by decide +kernel
abbrev cX3_init : ByteArray := prog_5_method_1_code
def yX3_init : MethodName := ⟨RX3, "<init>", "(LQuaylock$Yard;LQuaylock$Yard;)V"⟩
abbrev cX3_find : ByteArray := prog_5_method_2_code
def yX3_find : MethodName := ⟨RX3, "find", "(I)Z"⟩
abbrev cX3_length : ByteArray := prog_5_method_3_code
def yX3_length : MethodName := ⟨RX3, "length", "()I"⟩
abbrev cX3_boxMoved : ByteArray := prog_5_method_4_code
def yX3_boxMoved : MethodName := ⟨RX3, "boxMoved", "(I)I"⟩
abbrev cX3_stackReached : ByteArray := prog_5_method_5_code
def yX3_stackReached : MethodName := ⟨RX3, "stackReached", "(I)I"⟩
abbrev cX3_lengthByTrying : ByteArray := prog_5_method_6_code
def yX3_lengthByTrying : MethodName := ⟨RX3, "lengthByTrying", "(I)I"⟩
abbrev cX3_fewestMoves : ByteArray := prog_5_method_7_code
def yX3_fewestMoves : MethodName := ⟨RX3, "fewestMoves", "(LQuaylock$Yard;II)I"⟩
abbrev cX3_layOut : ByteArray := prog_5_method_8_code
def yX3_layOut : MethodName := ⟨RX3, "layOut", "(J)V"⟩
abbrev cX3_addNextMoves : ByteArray := prog_5_method_9_code
def yX3_addNextMoves : MethodName := ⟨RX3, "addNextMoves", "(JII)V"⟩
abbrev cX3_extraNeed : ByteArray := prog_5_method_10_code
def yX3_extraNeed : MethodName := ⟨RX3, "extraNeed", "(III)I"⟩
abbrev cX3_begunWith : ByteArray := prog_5_method_11_code
def yX3_begunWith : MethodName := ⟨RX3, "begunWith", "(I)J"⟩
abbrev cX3_goneOn : ByteArray := prog_5_method_12_code
def yX3_goneOn : MethodName := ⟨RX3, "goneOn", "(JIII)J"⟩
abbrev cX3_needOf : ByteArray := prog_5_method_13_code
def yX3_needOf : MethodName := ⟨RX3, "needOf", "(J)I"⟩
abbrev cX3_lengthOf : ByteArray := prog_5_method_14_code
def yX3_lengthOf : MethodName := ⟨RX3, "lengthOf", "(J)I"⟩
abbrev cX3_moveOf : ByteArray := prog_5_method_15_code
def yX3_moveOf : MethodName := ⟨RX3, "moveOf", "(JI)I"⟩
abbrev cX3_shiftOf : ByteArray := prog_5_method_16_code
def yX3_shiftOf : MethodName := ⟨RX3, "shiftOf", "(I)I"⟩
def RX4 : String := "Quaylock$Yard"
def TX4 : u_T := fun k => match k with
  | 0 => ("Quaylock$Yard", "cargo", "LQuaylock$Cargo;", true)
  | 1 => ("Quaylock$Yard", "reaches", "[I", true)
  | 2 => ("Quaylock$Yard", "heights", "[I", true)
  | 3 => ("Quaylock$Yard", "places", "[I", true)
  | 4 => ("Quaylock$Yard", "stacksOfBoxes", "[I", true)
  | 5 => ("Quaylock$Yard", "stackCount", "I", false)
  | _ => ("Quaylock$Yard", "boxCount", "I", false)
def tyX4 : Nat → FieldType := fun k => match k with
  | 0 => .object "Quaylock$Cargo"
  | 1 => .array .int
  | 2 => .array .int
  | 3 => .array .int
  | 4 => .array .int
  | 5 => .int
  | _ => .int
abbrev wsX40 : List Cond := u_ws RX4 TX4 7
theorem nmX4 : ∀ a, a < 7 → ∀ b, b < 7 → a ≠ b → (TX4 a).2.1 ≠ (TX4 b).2.1 := by decide +kernel
theorem tyX4_ok : ∀ k, k < 7 → parseFieldDescriptor (TX4 k).2.2.1 = some (tyX4 k) := by decide +kernel
abbrev cX4_init : ByteArray := prog_6_method_1_code
def yX4_init : MethodName := ⟨RX4, "<init>", "(LQuaylock$Cargo;)V"⟩
abbrev cX4_copyFrom : ByteArray := prog_6_method_2_code
def yX4_copyFrom : MethodName := ⟨RX4, "copyFrom", "(LQuaylock$Yard;)V"⟩
abbrev cX4_openStack : ByteArray := prog_6_method_3_code
def yX4_openStack : MethodName := ⟨RX4, "openStack", "(I)I"⟩
abbrev cX4_stackCount : ByteArray := prog_6_method_4_code
def yX4_stackCount : MethodName := ⟨RX4, "stackCount", "()I"⟩
abbrev cX4_boxCount : ByteArray := prog_6_method_5_code
def yX4_boxCount : MethodName := ⟨RX4, "boxCount", "()I"⟩
abbrev cX4_hasStack : ByteArray := prog_6_method_6_code
def yX4_hasStack : MethodName := ⟨RX4, "hasStack", "(I)Z"⟩
abbrev cX4_heightOf : ByteArray := prog_6_method_7_code
def yX4_heightOf : MethodName := ⟨RX4, "heightOf", "(I)I"⟩
abbrev cX4_isFull : ByteArray := prog_6_method_8_code
def yX4_isFull : MethodName := ⟨RX4, "isFull", "(I)Z"⟩
abbrev cX4_bears : ByteArray := prog_6_method_9_code
def yX4_bears : MethodName := ⟨RX4, "bears", "(II)Z"⟩
abbrev cX4_stackWith : ByteArray := prog_6_method_10_code
def yX4_stackWith : MethodName := ⟨RX4, "stackWith", "(I)I"⟩
abbrev cX4_boxOn : ByteArray := prog_6_method_11_code
def yX4_boxOn : MethodName := ⟨RX4, "boxOn", "(II)I"⟩
abbrev cX4_topOf : ByteArray := prog_6_method_12_code
def yX4_topOf : MethodName := ⟨RX4, "topOf", "(I)I"⟩
abbrev cX4_boxesUnder : ByteArray := prog_6_method_13_code
def yX4_boxesUnder : MethodName := ⟨RX4, "boxesUnder", "(I)I"⟩
abbrev cX4_boxesOver : ByteArray := prog_6_method_14_code
def yX4_boxesOver : MethodName := ⟨RX4, "boxesOver", "(I)I"⟩
abbrev cX4_pinnedOver : ByteArray := prog_6_method_15_code
def yX4_pinnedOver : MethodName := ⟨RX4, "pinnedOver", "(I)I"⟩
abbrev cX4_reasonAgainst : ByteArray := prog_6_method_16_code
def yX4_reasonAgainst : MethodName := ⟨RX4, "reasonAgainst", "(II)C"⟩
abbrev cX4_put : ByteArray := prog_6_method_17_code
def yX4_put : MethodName := ⟨RX4, "put", "(II)V"⟩
abbrev cX4_take : ByteArray := prog_6_method_18_code
def yX4_take : MethodName := ⟨RX4, "take", "(I)V"⟩
abbrev cX4_shift : ByteArray := prog_6_method_19_code
def yX4_shift : MethodName := ⟨RX4, "shift", "(II)V"⟩
def RX5 : String := "Quaylock"
def TX5 : u_T := fun k => match k with
  | 0 => ("Quaylock", "cargo", "LQuaylock$Cargo;", true)
  | 1 => ("Quaylock", "yard", "LQuaylock$Yard;", true)
  | 2 => ("Quaylock", "planner", "LQuaylock$Planner;", true)
  | 3 => ("Quaylock", "gate", "LQuaylock$Gate;", true)
  | 4 => ("Quaylock", "hour", "I", false)
  | 5 => ("Quaylock", "movesMade", "I", false)
  | _ => ("Quaylock", "weightGone", "J", false)
def tyX5 : Nat → FieldType := fun k => match k with
  | 0 => .object "Quaylock$Cargo"
  | 1 => .object "Quaylock$Yard"
  | 2 => .object "Quaylock$Planner"
  | 3 => .object "Quaylock$Gate"
  | 4 => .int
  | 5 => .int
  | _ => .long
abbrev wsX50 : List Cond := u_ws RX5 TX5 7
theorem nmX5 : ∀ a, a < 7 → ∀ b, b < 7 → a ≠ b → (TX5 a).2.1 ≠ (TX5 b).2.1 := by decide +kernel
theorem tyX5_ok : ∀ k, k < 7 → parseFieldDescriptor (TX5 k).2.2.1 = some (tyX5 k) := by decide +kernel
abbrev cX5_init : ByteArray := prog_1_method_1_code
def yX5_init : MethodName := ⟨RX5, "<init>", "()V"⟩
abbrev cX5_addStack : ByteArray := prog_1_method_2_code
def yX5_addStack : MethodName := ⟨RX5, "addStack", "(I)I"⟩
abbrev cX5_addBox : ByteArray := prog_1_method_3_code
def yX5_addBox : MethodName := ⟨RX5, "addBox", "(II)I"⟩
abbrev cX5_boxes : ByteArray := prog_1_method_4_code
def yX5_boxes : MethodName := ⟨RX5, "boxes", "()I"⟩
abbrev cX5_isInYard : ByteArray := prog_1_method_5_code
def yX5_isInYard : MethodName := ⟨RX5, "isInYard", "(I)Z"⟩
abbrev cX5_weight : ByteArray := prog_1_method_6_code
def yX5_weight : MethodName := ⟨RX5, "weight", "(I)I"⟩
abbrev cX5_stackOf : ByteArray := prog_1_method_7_code
def yX5_stackOf : MethodName := ⟨RX5, "stackOf", "(I)I"⟩
abbrev cX5_level : ByteArray := prog_1_method_8_code
def yX5_level : MethodName := ⟨RX5, "level", "(I)I"⟩
abbrev cX5_above : ByteArray := prog_1_method_9_code
def yX5_above : MethodName := ⟨RX5, "above", "(I)I"⟩
abbrev cX5_height : ByteArray := prog_1_method_10_code
def yX5_height : MethodName := ⟨RX5, "height", "(I)I"⟩
abbrev cX5_boxAt : ByteArray := prog_1_method_11_code
def yX5_boxAt : MethodName := ⟨RX5, "boxAt", "(II)I"⟩
abbrev cX5_hold : ByteArray := prog_1_method_12_code
def yX5_hold : MethodName := ⟨RX5, "hold", "(ICI)I"⟩
abbrev cX5_release : ByteArray := prog_1_method_13_code
def yX5_release : MethodName := ⟨RX5, "release", "(I)I"⟩
abbrev cX5_holdOf : ByteArray := prog_1_method_14_code
def yX5_holdOf : MethodName := ⟨RX5, "holdOf", "(I)C"⟩
abbrev cX5_heldUntil : ByteArray := prog_1_method_15_code
def yX5_heldUntil : MethodName := ⟨RX5, "heldUntil", "(I)I"⟩
abbrev cX5_pinnedAbove : ByteArray := prog_1_method_16_code
def yX5_pinnedAbove : MethodName := ⟨RX5, "pinnedAbove", "(I)I"⟩
abbrev cX5_why : ByteArray := prog_1_method_17_code
def yX5_why : MethodName := ⟨RX5, "why", "(II)C"⟩
abbrev cX5_move : ByteArray := prog_1_method_18_code
def yX5_move : MethodName := ⟨RX5, "move", "(II)I"⟩
abbrev cX5_planLength : ByteArray := prog_1_method_19_code
def yX5_planLength : MethodName := ⟨RX5, "planLength", "(I)I"⟩
abbrev cX5_planByTrying : ByteArray := prog_1_method_20_code
def yX5_planByTrying : MethodName := ⟨RX5, "planByTrying", "(I)I"⟩
abbrev cX5_planBox : ByteArray := prog_1_method_21_code
def yX5_planBox : MethodName := ⟨RX5, "planBox", "(II)I"⟩
abbrev cX5_planStack : ByteArray := prog_1_method_22_code
def yX5_planStack : MethodName := ⟨RX5, "planStack", "(II)I"⟩
abbrev cX5_dig : ByteArray := prog_1_method_23_code
def yX5_dig : MethodName := ⟨RX5, "dig", "(I)I"⟩
abbrev cX5_moves : ByteArray := prog_1_method_24_code
def yX5_moves : MethodName := ⟨RX5, "moves", "()I"⟩
abbrev cX5_book : ByteArray := prog_1_method_25_code
def yX5_book : MethodName := ⟨RX5, "book", "(III)I"⟩
abbrev cX5_cancel : ByteArray := prog_1_method_26_code
def yX5_cancel : MethodName := ⟨RX5, "cancel", "(I)I"⟩
abbrev cX5_stateOf : ByteArray := prog_1_method_27_code
def yX5_stateOf : MethodName := ⟨RX5, "stateOf", "(I)C"⟩
abbrev cX5_appointmentOf : ByteArray := prog_1_method_28_code
def yX5_appointmentOf : MethodName := ⟨RX5, "appointmentOf", "(I)I"⟩
abbrev cX5_inLane : ByteArray := prog_1_method_29_code
def yX5_inLane : MethodName := ⟨RX5, "inLane", "(II)I"⟩
abbrev cX5_firstHour : ByteArray := prog_1_method_30_code
def yX5_firstHour : MethodName := ⟨RX5, "firstHour", "(I)I"⟩
abbrev cX5_pass : ByteArray := prog_1_method_31_code
def yX5_pass : MethodName := ⟨RX5, "pass", "(I)I"⟩
abbrev cX5_now : ByteArray := prog_1_method_32_code
def yX5_now : MethodName := ⟨RX5, "now", "()I"⟩
abbrev cX5_weightLeft : ByteArray := prog_1_method_33_code
def yX5_weightLeft : MethodName := ⟨RX5, "weightLeft", "()J"⟩
abbrev cX5_doneShare : ByteArray := prog_1_method_34_code
def yX5_doneShare : MethodName := ⟨RX5, "doneShare", "()F"⟩
abbrev cX5_requireStack : ByteArray := prog_1_method_35_code
def yX5_requireStack : MethodName := ⟨RX5, "requireStack", "(I)V"⟩
abbrev cX5_requireBox : ByteArray := prog_1_method_36_code
def yX5_requireBox : MethodName := ⟨RX5, "requireBox", "(I)V"⟩
abbrev cX5_requireLane : ByteArray := prog_1_method_37_code
def yX5_requireLane : MethodName := ⟨RX5, "requireLane", "(I)V"⟩
abbrev cX5_requireAppointment : ByteArray := prog_1_method_38_code
def yX5_requireAppointment : MethodName := ⟨RX5, "requireAppointment", "(I)V"⟩
abbrev cX5_requirePlan : ByteArray := prog_1_method_39_code
def yX5_requirePlan : MethodName := ⟨RX5, "requirePlan", "(I)V"⟩
abbrev cX5_requirePlannedMove : ByteArray := prog_1_method_40_code
def yX5_requirePlannedMove : MethodName := ⟨RX5, "requirePlannedMove", "(I)V"⟩
abbrev cX5_makeMove : ByteArray := prog_1_method_41_code
def yX5_makeMove : MethodName := ⟨RX5, "makeMove", "(II)V"⟩
abbrev cX5_makePlannedMoves : ByteArray := prog_1_method_42_code
def yX5_makePlannedMoves : MethodName := ⟨RX5, "makePlannedMoves", "()V"⟩
abbrev cX5_giveBackIfHeld : ByteArray := prog_1_method_43_code
def yX5_giveBackIfHeld : MethodName := ⟨RX5, "giveBackIfHeld", "(I)Z"⟩
abbrev cX5_serve : ByteArray := prog_1_method_44_code
def yX5_serve : MethodName := ⟨RX5, "serve", "(I)I"⟩
def RX6 : String := "QuaylockModel"
def TX6 : u_T := fun k => match k with
  | 0 => ("QuaylockModel", "code", "I", false)
  | 1 => ("QuaylockModel", "now", "I", false)
  | 2 => ("QuaylockModel", "stacks", "I", false)
  | 3 => ("QuaylockModel", "reaches", "[I", true)
  | 4 => ("QuaylockModel", "boxes", "I", false)
  | 5 => ("QuaylockModel", "weights", "[I", true)
  | 6 => ("QuaylockModel", "inside", "[Z", true)
  | 7 => ("QuaylockModel", "holds", "[C", true)
  | 8 => ("QuaylockModel", "untils", "[I", true)
  | 9 => ("QuaylockModel", "heights", "[I", true)
  | 10 => ("QuaylockModel", "piles", "[I", true)
  | 11 => ("QuaylockModel", "plan", "[I", true)
  | 12 => ("QuaylockModel", "moves", "I", false)
  | 13 => ("QuaylockModel", "appointments", "I", false)
  | 14 => ("QuaylockModel", "appointed", "[I", true)
  | 15 => ("QuaylockModel", "hours", "[I", true)
  | 16 => ("QuaylockModel", "lanes", "[I", true)
  | 17 => ("QuaylockModel", "states", "[C", true)
  | _ => ("QuaylockModel", "left", "J", false)
def tyX6 : Nat → FieldType := fun k => match k with
  | 0 => .int
  | 1 => .int
  | 2 => .int
  | 3 => .array .int
  | 4 => .int
  | 5 => .array .int
  | 6 => .array .boolean
  | 7 => .array .char
  | 8 => .array .int
  | 9 => .array .int
  | 10 => .array .int
  | 11 => .array .int
  | 12 => .int
  | 13 => .int
  | 14 => .array .int
  | 15 => .array .int
  | 16 => .array .int
  | 17 => .array .char
  | _ => .long
abbrev wsX60 : List Cond := u_ws RX6 TX6 19
theorem nmX6 : ∀ a, a < 19 → ∀ b, b < 19 → a ≠ b → (TX6 a).2.1 ≠ (TX6 b).2.1 := by decide +kernel
theorem tyX6_ok : ∀ k, k < 19 → parseFieldDescriptor (TX6 k).2.2.1 = some (tyX6 k) := by decide +kernel
abbrev cX6_init : ByteArray := prog_8_method_1_code
def yX6_init : MethodName := ⟨RX6, "<init>", "()V"⟩
abbrev cX6_thrown : ByteArray := prog_8_method_2_code
def yX6_thrown : MethodName := ⟨RX6, "thrown", "()I"⟩
abbrev cX6_in : ByteArray := prog_8_method_3_code
def yX6_in : MethodName := ⟨RX6, "in", "(III)Z"⟩
abbrev cX6_fails : ByteArray := prog_8_method_4_code
def yX6_fails : MethodName := ⟨RX6, "fails", "(I)I"⟩
abbrev cX6_isBox : ByteArray := prog_8_method_5_code
def yX6_isBox : MethodName := ⟨RX6, "isBox", "(I)Z"⟩
abbrev cX6_isStack : ByteArray := prog_8_method_6_code
def yX6_isStack : MethodName := ⟨RX6, "isStack", "(I)Z"⟩
abbrev cX6_isPinned : ByteArray := prog_8_method_7_code
def yX6_isPinned : MethodName := ⟨RX6, "isPinned", "(I)Z"⟩
abbrev cX6_placeOf : ByteArray := prog_8_method_8_code
def yX6_placeOf : MethodName := ⟨RX6, "placeOf", "(II)I"⟩
abbrev cX6_levelOf : ByteArray := prog_8_method_9_code
def yX6_levelOf : MethodName := ⟨RX6, "levelOf", "(II)I"⟩
abbrev cX6_topOf : ByteArray := prog_8_method_10_code
def yX6_topOf : MethodName := ⟨RX6, "topOf", "(II)I"⟩
abbrev cX6_isTop : ByteArray := prog_8_method_11_code
def yX6_isTop : MethodName := ⟨RX6, "isTop", "(II)Z"⟩
abbrev cX6_takes : ByteArray := prog_8_method_12_code
def yX6_takes : MethodName := ⟨RX6, "takes", "(III)Z"⟩
abbrev cX6_lays : ByteArray := prog_8_method_13_code
def yX6_lays : MethodName := ⟨RX6, "lays", "(III)V"⟩
abbrev cX6_canMove : ByteArray := prog_8_method_14_code
def yX6_canMove : MethodName := ⟨RX6, "canMove", "(III)Z"⟩
abbrev cX6_moves : ByteArray := prog_8_method_15_code
def yX6_moves : MethodName := ⟨RX6, "moves", "(III)V"⟩
abbrev cX6_copies : ByteArray := prog_8_method_16_code
def yX6_copies : MethodName := ⟨RX6, "copies", "(II)V"⟩
abbrev cX6_nextMove : ByteArray := prog_8_method_17_code
def yX6_nextMove : MethodName := ⟨RX6, "nextMove", "(III)I"⟩
abbrev cX6_finds : ByteArray := prog_8_method_18_code
def yX6_finds : MethodName := ⟨RX6, "finds", "(II)Z"⟩
abbrev cX6_aboveOf : ByteArray := prog_8_method_19_code
def yX6_aboveOf : MethodName := ⟨RX6, "aboveOf", "(I)I"⟩
abbrev cX6_plans : ByteArray := prog_8_method_20_code
def yX6_plans : MethodName := ⟨RX6, "plans", "(I)I"⟩
abbrev cX6_makes : ByteArray := prog_8_method_21_code
def yX6_makes : MethodName := ⟨RX6, "makes", "(I)V"⟩
abbrev cX6_addStack : ByteArray := prog_8_method_22_code
def yX6_addStack : MethodName := ⟨RX6, "addStack", "(I)I"⟩
abbrev cX6_insideNow : ByteArray := prog_8_method_23_code
def yX6_insideNow : MethodName := ⟨RX6, "insideNow", "()I"⟩
abbrev cX6_addBox : ByteArray := prog_8_method_24_code
def yX6_addBox : MethodName := ⟨RX6, "addBox", "(II)I"⟩
abbrev cX6_boxes : ByteArray := prog_8_method_25_code
def yX6_boxes : MethodName := ⟨RX6, "boxes", "()I"⟩
abbrev cX6_isInYard : ByteArray := prog_8_method_26_code
def yX6_isInYard : MethodName := ⟨RX6, "isInYard", "(I)Z"⟩
abbrev cX6_weight : ByteArray := prog_8_method_27_code
def yX6_weight : MethodName := ⟨RX6, "weight", "(I)I"⟩
abbrev cX6_stackOf : ByteArray := prog_8_method_28_code
def yX6_stackOf : MethodName := ⟨RX6, "stackOf", "(I)I"⟩
abbrev cX6_level : ByteArray := prog_8_method_29_code
def yX6_level : MethodName := ⟨RX6, "level", "(I)I"⟩
abbrev cX6_above : ByteArray := prog_8_method_30_code
def yX6_above : MethodName := ⟨RX6, "above", "(I)I"⟩
abbrev cX6_height : ByteArray := prog_8_method_31_code
def yX6_height : MethodName := ⟨RX6, "height", "(I)I"⟩
abbrev cX6_boxAt : ByteArray := prog_8_method_32_code
def yX6_boxAt : MethodName := ⟨RX6, "boxAt", "(II)I"⟩
abbrev cX6_appointmentIn : ByteArray := prog_8_method_33_code
def yX6_appointmentIn : MethodName := ⟨RX6, "appointmentIn", "(I)I"⟩
abbrev cX6_hold : ByteArray := prog_8_method_34_code
def yX6_hold : MethodName := ⟨RX6, "hold", "(ICI)I"⟩
abbrev cX6_release : ByteArray := prog_8_method_35_code
def yX6_release : MethodName := ⟨RX6, "release", "(I)I"⟩
abbrev cX6_holdOf : ByteArray := prog_8_method_36_code
def yX6_holdOf : MethodName := ⟨RX6, "holdOf", "(I)C"⟩
abbrev cX6_heldUntil : ByteArray := prog_8_method_37_code
def yX6_heldUntil : MethodName := ⟨RX6, "heldUntil", "(I)I"⟩
abbrev cX6_pinnedAbove : ByteArray := prog_8_method_38_code
def yX6_pinnedAbove : MethodName := ⟨RX6, "pinnedAbove", "(I)I"⟩
abbrev cX6_why : ByteArray := prog_8_method_39_code
def yX6_why : MethodName := ⟨RX6, "why", "(II)C"⟩
abbrev cX6_move : ByteArray := prog_8_method_40_code
def yX6_move : MethodName := ⟨RX6, "move", "(II)I"⟩
abbrev cX6_planned : ByteArray := prog_8_method_41_code
def yX6_planned : MethodName := ⟨RX6, "planned", "(I)I"⟩
abbrev cX6_planLength : ByteArray := prog_8_method_42_code
def yX6_planLength : MethodName := ⟨RX6, "planLength", "(I)I"⟩
abbrev cX6_planByTrying : ByteArray := prog_8_method_43_code
def yX6_planByTrying : MethodName := ⟨RX6, "planByTrying", "(I)I"⟩
abbrev cX6_plannedAt : ByteArray := prog_8_method_44_code
def yX6_plannedAt : MethodName := ⟨RX6, "plannedAt", "(II)I"⟩
abbrev cX6_planBox : ByteArray := prog_8_method_45_code
def yX6_planBox : MethodName := ⟨RX6, "planBox", "(II)I"⟩
abbrev cX6_planStack : ByteArray := prog_8_method_46_code
def yX6_planStack : MethodName := ⟨RX6, "planStack", "(II)I"⟩
abbrev cX6_dig : ByteArray := prog_8_method_47_code
def yX6_dig : MethodName := ⟨RX6, "dig", "(I)I"⟩
abbrev cX6_moves_ : ByteArray := prog_8_method_48_code
def yX6_moves_ : MethodName := ⟨RX6, "moves", "()I"⟩
abbrev cX6_bookedIn : ByteArray := prog_8_method_49_code
def yX6_bookedIn : MethodName := ⟨RX6, "bookedIn", "(II)I"⟩
abbrev cX6_isHeldIn : ByteArray := prog_8_method_50_code
def yX6_isHeldIn : MethodName := ⟨RX6, "isHeldIn", "(II)Z"⟩
abbrev cX6_book : ByteArray := prog_8_method_51_code
def yX6_book : MethodName := ⟨RX6, "book", "(III)I"⟩
abbrev cX6_counted : ByteArray := prog_8_method_52_code
def yX6_counted : MethodName := ⟨RX6, "counted", "(C)I"⟩
abbrev cX6_cancel : ByteArray := prog_8_method_53_code
def yX6_cancel : MethodName := ⟨RX6, "cancel", "(I)I"⟩
abbrev cX6_stateOf : ByteArray := prog_8_method_54_code
def yX6_stateOf : MethodName := ⟨RX6, "stateOf", "(I)C"⟩
abbrev cX6_appointmentOf : ByteArray := prog_8_method_55_code
def yX6_appointmentOf : MethodName := ⟨RX6, "appointmentOf", "(I)I"⟩
abbrev cX6_inLane : ByteArray := prog_8_method_56_code
def yX6_inLane : MethodName := ⟨RX6, "inLane", "(II)I"⟩
abbrev cX6_firstHour : ByteArray := prog_8_method_57_code
def yX6_firstHour : MethodName := ⟨RX6, "firstHour", "(I)I"⟩
abbrev cX6_leaves : ByteArray := prog_8_method_58_code
def yX6_leaves : MethodName := ⟨RX6, "leaves", "(I)Z"⟩
abbrev cX6_pass : ByteArray := prog_8_method_59_code
def yX6_pass : MethodName := ⟨RX6, "pass", "(I)I"⟩
abbrev cX6_now : ByteArray := prog_8_method_60_code
def yX6_now : MethodName := ⟨RX6, "now", "()I"⟩
abbrev cX6_weightLeft : ByteArray := prog_8_method_61_code
def yX6_weightLeft : MethodName := ⟨RX6, "weightLeft", "()J"⟩
abbrev cX6_doneShare : ByteArray := prog_8_method_62_code
def yX6_doneShare : MethodName := ⟨RX6, "doneShare", "()F"⟩
def RJ0 : String := "java/lang/String"
def TJ0 : u_T := fun k => match k with
  | _ => ("", "", "", false)
def tyJ0 : Nat → FieldType := fun k => match k with
  | _ => .int
abbrev wsJ00 : List Cond := u_ws RJ0 TJ0 0
theorem nmJ0 : ∀ a, a < 0 → ∀ b, b < 0 → a ≠ b → (TJ0 a).2.1 ≠ (TJ0 b).2.1 := by decide +kernel
theorem tyJ0_ok : ∀ k, k < 0 → parseFieldDescriptor (TJ0 k).2.2.1 = some (tyJ0 k) := by decide +kernel
def RJ10 : String := "java/lang/System"
def TJ10 : u_T := fun k => match k with
  | _ => ("", "", "", false)
def tyJ10 : Nat → FieldType := fun k => match k with
  | _ => .int
abbrev wsJ100 : List Cond := u_ws RJ10 TJ10 0
theorem nmJ10 : ∀ a, a < 0 → ∀ b, b < 0 → a ≠ b → (TJ10 a).2.1 ≠ (TJ10 b).2.1 := by decide +kernel
theorem tyJ10_ok : ∀ k, k < 0 → parseFieldDescriptor (TJ10 k).2.2.1 = some (tyJ10 k) := by decide +kernel
def RL : String := "QuaylockLaw"
abbrev cL_addStack : ByteArray := method_3_code
def yL_addStack : MethodName := ⟨RL, "addStack", "(LQuaylock;I[J)I"⟩
abbrev cL_addBox : ByteArray := method_4_code
def yL_addBox : MethodName := ⟨RL, "addBox", "(LQuaylock;II[J)I"⟩
abbrev cL_weight : ByteArray := method_5_code
def yL_weight : MethodName := ⟨RL, "weight", "(LQuaylock;I[J)I"⟩
abbrev cL_stackOf : ByteArray := method_6_code
def yL_stackOf : MethodName := ⟨RL, "stackOf", "(LQuaylock;I[J)I"⟩
abbrev cL_level : ByteArray := method_7_code
def yL_level : MethodName := ⟨RL, "level", "(LQuaylock;I[J)I"⟩
abbrev cL_above : ByteArray := method_8_code
def yL_above : MethodName := ⟨RL, "above", "(LQuaylock;I[J)I"⟩
abbrev cL_height : ByteArray := method_9_code
def yL_height : MethodName := ⟨RL, "height", "(LQuaylock;I[J)I"⟩
abbrev cL_boxAt : ByteArray := method_10_code
def yL_boxAt : MethodName := ⟨RL, "boxAt", "(LQuaylock;II[J)I"⟩
abbrev cL_hold : ByteArray := method_11_code
def yL_hold : MethodName := ⟨RL, "hold", "(LQuaylock;ICI[J)I"⟩
abbrev cL_release : ByteArray := method_12_code
def yL_release : MethodName := ⟨RL, "release", "(LQuaylock;I[J)I"⟩
abbrev cL_holdOf : ByteArray := method_13_code
def yL_holdOf : MethodName := ⟨RL, "holdOf", "(LQuaylock;I[J)I"⟩
abbrev cL_heldUntil : ByteArray := method_14_code
def yL_heldUntil : MethodName := ⟨RL, "heldUntil", "(LQuaylock;I[J)I"⟩
abbrev cL_pinnedAbove : ByteArray := method_15_code
def yL_pinnedAbove : MethodName := ⟨RL, "pinnedAbove", "(LQuaylock;I[J)I"⟩
abbrev cL_why : ByteArray := method_16_code
def yL_why : MethodName := ⟨RL, "why", "(LQuaylock;II[J)I"⟩
abbrev cL_move : ByteArray := method_17_code
def yL_move : MethodName := ⟨RL, "move", "(LQuaylock;II[J)I"⟩
abbrev cL_planLength : ByteArray := method_18_code
def yL_planLength : MethodName := ⟨RL, "planLength", "(LQuaylock;I[J)I"⟩
abbrev cL_planByTrying : ByteArray := method_19_code
def yL_planByTrying : MethodName := ⟨RL, "planByTrying", "(LQuaylock;I[J)I"⟩
abbrev cL_planBox : ByteArray := method_20_code
def yL_planBox : MethodName := ⟨RL, "planBox", "(LQuaylock;II[J)I"⟩
abbrev cL_planStack : ByteArray := method_21_code
def yL_planStack : MethodName := ⟨RL, "planStack", "(LQuaylock;II[J)I"⟩
abbrev cL_dig : ByteArray := method_22_code
def yL_dig : MethodName := ⟨RL, "dig", "(LQuaylock;I[J)I"⟩
abbrev cL_book : ByteArray := method_23_code
def yL_book : MethodName := ⟨RL, "book", "(LQuaylock;III[J)I"⟩
abbrev cL_cancel : ByteArray := method_24_code
def yL_cancel : MethodName := ⟨RL, "cancel", "(LQuaylock;I[J)I"⟩
abbrev cL_stateOf : ByteArray := method_25_code
def yL_stateOf : MethodName := ⟨RL, "stateOf", "(LQuaylock;I[J)I"⟩
abbrev cL_appointmentOf : ByteArray := method_26_code
def yL_appointmentOf : MethodName := ⟨RL, "appointmentOf", "(LQuaylock;I[J)I"⟩
abbrev cL_inLane : ByteArray := method_27_code
def yL_inLane : MethodName := ⟨RL, "inLane", "(LQuaylock;II[J)I"⟩
abbrev cL_firstHour : ByteArray := method_28_code
def yL_firstHour : MethodName := ⟨RL, "firstHour", "(LQuaylock;I[J)I"⟩
abbrev cL_pass : ByteArray := method_29_code
def yL_pass : MethodName := ⟨RL, "pass", "(LQuaylock;I[J)I"⟩
abbrev cL_doneShare : ByteArray := method_30_code
def yL_doneShare : MethodName := ⟨RL, "doneShare", "(LQuaylock;[D)I"⟩
abbrev cL_law : ByteArray := code
def yL_law : MethodName := ⟨RL, "law", "([I)Z"⟩
abbrev vwCl : List vw_C := [(RX0, TX0, 4), (RX1, TX1, 5), (RX2, TX2, 2), (RX3, TX3, 4), (RX4, TX4, 7), (RX5, TX5, 7), (RX6, TX6, 19)]
end
section
theorem dX0_init_0 : decode cX0_init 0 = .ok (.aload_n 0, 1) := by decide +kernel
theorem dX0_init_1 : decode cX0_init 1 = .ok (.invokespecial 3, 3) := by decide +kernel
theorem dX0_init_4 : decode cX0_init 4 = .ok (.aload_n 0, 1) := by decide +kernel
theorem dX0_init_5 : decode cX0_init 5 = .ok (.bipush 20, 2) := by decide +kernel
theorem dX0_init_7 : decode cX0_init 7 = .ok (.newarray .int, 2) := by decide +kernel
theorem dX0_init_9 : decode cX0_init 9 = .ok (.putfield 9, 3) := by decide +kernel
theorem dX0_init_12 : decode cX0_init 12 = .ok (.aload_n 0, 1) := by decide +kernel
theorem dX0_init_13 : decode cX0_init 13 = .ok (.bipush 20, 2) := by decide +kernel
theorem dX0_init_15 : decode cX0_init 15 = .ok (.newarray .char, 2) := by decide +kernel
theorem dX0_init_17 : decode cX0_init 17 = .ok (.putfield 15, 3) := by decide +kernel
theorem dX0_init_20 : decode cX0_init 20 = .ok (.aload_n 0, 1) := by decide +kernel
theorem dX0_init_21 : decode cX0_init 21 = .ok (.bipush 20, 2) := by decide +kernel
theorem dX0_init_23 : decode cX0_init 23 = .ok (.newarray .int, 2) := by decide +kernel
theorem dX0_init_25 : decode cX0_init 25 = .ok (.putfield 19, 3) := by decide +kernel
theorem dX0_init_28 : decode cX0_init 28 = .ok (.return_, 1) := by decide +kernel
theorem dX0_come_0 : decode cX0_come 0 = .ok (.aload_n 0, 1) := by decide +kernel
theorem dX0_come_1 : decode cX0_come 1 = .ok (.getfield 22, 3) := by decide +kernel
theorem dX0_come_4 : decode cX0_come 4 = .ok (.ireturn, 1) := by decide +kernel
theorem dX0_register_0 : decode cX0_register 0 = .ok (.aload_n 0, 1) := by decide +kernel
theorem dX0_register_1 : decode cX0_register 1 = .ok (.getfield 22, 3) := by decide +kernel
theorem dX0_register_4 : decode cX0_register 4 = .ok (.bipush 20, 2) := by decide +kernel
theorem dX0_register_6 : decode cX0_register 6 = .ok (.if_icmp .lt 5, 3) := by decide +kernel
theorem dX0_register_9 : decode cX0_register 9 = .ok (.iconst (-1), 1) := by decide +kernel
theorem dX0_register_10 : decode cX0_register 10 = .ok (.ireturn, 1) := by decide +kernel
theorem dX0_register_11 : decode cX0_register 11 = .ok (.aload_n 0, 1) := by decide +kernel
theorem dX0_register_12 : decode cX0_register 12 = .ok (.getfield 22, 3) := by decide +kernel
theorem dX0_register_15 : decode cX0_register 15 = .ok (.istore_n 2, 1) := by decide +kernel
theorem dX0_register_16 : decode cX0_register 16 = .ok (.aload_n 0, 1) := by decide +kernel
theorem dX0_register_17 : decode cX0_register 17 = .ok (.dup, 1) := by decide +kernel
theorem dX0_register_18 : decode cX0_register 18 = .ok (.getfield 22, 3) := by decide +kernel
theorem dX0_register_21 : decode cX0_register 21 = .ok (.iconst 1, 1) := by decide +kernel
theorem dX0_register_22 : decode cX0_register 22 = .ok (.iadd, 1) := by decide +kernel
theorem dX0_register_23 : decode cX0_register 23 = .ok (.putfield 22, 3) := by decide +kernel
theorem dX0_register_26 : decode cX0_register 26 = .ok (.aload_n 0, 1) := by decide +kernel
theorem dX0_register_27 : decode cX0_register 27 = .ok (.getfield 9, 3) := by decide +kernel
theorem dX0_register_30 : decode cX0_register 30 = .ok (.iload_n 2, 1) := by decide +kernel
theorem dX0_register_31 : decode cX0_register 31 = .ok (.iload_n 1, 1) := by decide +kernel
theorem dX0_register_32 : decode cX0_register 32 = .ok (.iastore, 1) := by decide +kernel
theorem dX0_register_33 : decode cX0_register 33 = .ok (.aload_n 0, 1) := by decide +kernel
theorem dX0_register_34 : decode cX0_register 34 = .ok (.iload_n 2, 1) := by decide +kernel
theorem dX0_register_35 : decode cX0_register 35 = .ok (.invokevirtual 26, 3) := by decide +kernel
theorem dX0_register_38 : decode cX0_register 38 = .ok (.iload_n 2, 1) := by decide +kernel
theorem dX0_register_39 : decode cX0_register 39 = .ok (.ireturn, 1) := by decide +kernel
theorem dX0_weightOf_0 : decode cX0_weightOf 0 = .ok (.iload_n 1, 1) := by decide +kernel
theorem dX0_weightOf_1 : decode cX0_weightOf 1 = .ok (.ifCond .lt 20, 3) := by decide +kernel
theorem dX0_weightOf_4 : decode cX0_weightOf 4 = .ok (.iload_n 1, 1) := by decide +kernel
theorem dX0_weightOf_5 : decode cX0_weightOf 5 = .ok (.aload_n 0, 1) := by decide +kernel
theorem dX0_weightOf_6 : decode cX0_weightOf 6 = .ok (.getfield 22, 3) := by decide +kernel
theorem dX0_weightOf_9 : decode cX0_weightOf 9 = .ok (.if_icmp .ge 12, 3) := by decide +kernel
theorem dX0_weightOf_12 : decode cX0_weightOf 12 = .ok (.aload_n 0, 1) := by decide +kernel
theorem dX0_weightOf_13 : decode cX0_weightOf 13 = .ok (.getfield 9, 3) := by decide +kernel
theorem dX0_weightOf_16 : decode cX0_weightOf 16 = .ok (.iload_n 1, 1) := by decide +kernel
theorem dX0_weightOf_17 : decode cX0_weightOf 17 = .ok (.iaload, 1) := by decide +kernel
theorem dX0_weightOf_18 : decode cX0_weightOf 18 = .ok (.goto 4, 3) := by decide +kernel
theorem dX0_weightOf_21 : decode cX0_weightOf 21 = .ok (.iconst 0, 1) := by decide +kernel
theorem dX0_weightOf_22 : decode cX0_weightOf 22 = .ok (.ireturn, 1) := by decide +kernel
theorem dX0_holdKind_0 : decode cX0_holdKind 0 = .ok (.iload_n 1, 1) := by decide +kernel
theorem dX0_holdKind_1 : decode cX0_holdKind 1 = .ok (.ifCond .lt 20, 3) := by decide +kernel
theorem dX0_holdKind_4 : decode cX0_holdKind 4 = .ok (.iload_n 1, 1) := by decide +kernel
theorem dX0_holdKind_5 : decode cX0_holdKind 5 = .ok (.aload_n 0, 1) := by decide +kernel
theorem dX0_holdKind_6 : decode cX0_holdKind 6 = .ok (.getfield 22, 3) := by decide +kernel
theorem dX0_holdKind_9 : decode cX0_holdKind 9 = .ok (.if_icmp .ge 12, 3) := by decide +kernel
theorem dX0_holdKind_12 : decode cX0_holdKind 12 = .ok (.aload_n 0, 1) := by decide +kernel
theorem dX0_holdKind_13 : decode cX0_holdKind 13 = .ok (.getfield 15, 3) := by decide +kernel
theorem dX0_holdKind_16 : decode cX0_holdKind 16 = .ok (.iload_n 1, 1) := by decide +kernel
theorem dX0_holdKind_17 : decode cX0_holdKind 17 = .ok (.caload, 1) := by decide +kernel
theorem dX0_holdKind_18 : decode cX0_holdKind 18 = .ok (.goto 5, 3) := by decide +kernel
theorem dX0_holdKind_21 : decode cX0_holdKind 21 = .ok (.bipush 45, 2) := by decide +kernel
theorem dX0_holdKind_23 : decode cX0_holdKind 23 = .ok (.ireturn, 1) := by decide +kernel
theorem dX0_holdEnd_0 : decode cX0_holdEnd 0 = .ok (.iload_n 1, 1) := by decide +kernel
theorem dX0_holdEnd_1 : decode cX0_holdEnd 1 = .ok (.ifCond .lt 20, 3) := by decide +kernel
theorem dX0_holdEnd_4 : decode cX0_holdEnd 4 = .ok (.iload_n 1, 1) := by decide +kernel
theorem dX0_holdEnd_5 : decode cX0_holdEnd 5 = .ok (.aload_n 0, 1) := by decide +kernel
theorem dX0_holdEnd_6 : decode cX0_holdEnd 6 = .ok (.getfield 22, 3) := by decide +kernel
theorem dX0_holdEnd_9 : decode cX0_holdEnd 9 = .ok (.if_icmp .ge 12, 3) := by decide +kernel
theorem dX0_holdEnd_12 : decode cX0_holdEnd 12 = .ok (.aload_n 0, 1) := by decide +kernel
theorem dX0_holdEnd_13 : decode cX0_holdEnd 13 = .ok (.getfield 19, 3) := by decide +kernel
theorem dX0_holdEnd_16 : decode cX0_holdEnd 16 = .ok (.iload_n 1, 1) := by decide +kernel
theorem dX0_holdEnd_17 : decode cX0_holdEnd 17 = .ok (.iaload, 1) := by decide +kernel
theorem dX0_holdEnd_18 : decode cX0_holdEnd 18 = .ok (.goto 4, 3) := by decide +kernel
theorem dX0_holdEnd_21 : decode cX0_holdEnd 21 = .ok (.iconst 0, 1) := by decide +kernel
theorem dX0_holdEnd_22 : decode cX0_holdEnd 22 = .ok (.ireturn, 1) := by decide +kernel
theorem dX0_isHeld_0 : decode cX0_isHeld 0 = .ok (.aload_n 0, 1) := by decide +kernel
theorem dX0_isHeld_1 : decode cX0_isHeld 1 = .ok (.iload_n 1, 1) := by decide +kernel
theorem dX0_isHeld_2 : decode cX0_isHeld 2 = .ok (.invokevirtual 30, 3) := by decide +kernel
theorem dX0_isHeld_5 : decode cX0_isHeld 5 = .ok (.bipush 45, 2) := by decide +kernel
theorem dX0_isHeld_7 : decode cX0_isHeld 7 = .ok (.if_icmp .eq 7, 3) := by decide +kernel
theorem dX0_isHeld_10 : decode cX0_isHeld 10 = .ok (.iconst 1, 1) := by decide +kernel
theorem dX0_isHeld_11 : decode cX0_isHeld 11 = .ok (.goto 4, 3) := by decide +kernel
theorem dX0_isHeld_14 : decode cX0_isHeld 14 = .ok (.iconst 0, 1) := by decide +kernel
theorem dX0_isHeld_15 : decode cX0_isHeld 15 = .ok (.ireturn, 1) := by decide +kernel
theorem dX0_isPinned_0 : decode cX0_isPinned 0 = .ok (.aload_n 0, 1) := by decide +kernel
theorem dX0_isPinned_1 : decode cX0_isPinned 1 = .ok (.iload_n 1, 1) := by decide +kernel
theorem dX0_isPinned_2 : decode cX0_isPinned 2 = .ok (.invokevirtual 30, 3) := by decide +kernel
theorem dX0_isPinned_5 : decode cX0_isPinned 5 = .ok (.bipush 112, 2) := by decide +kernel
theorem dX0_isPinned_7 : decode cX0_isPinned 7 = .ok (.if_icmp .ne 7, 3) := by decide +kernel
theorem dX0_isPinned_10 : decode cX0_isPinned 10 = .ok (.iconst 1, 1) := by decide +kernel
theorem dX0_isPinned_11 : decode cX0_isPinned 11 = .ok (.goto 4, 3) := by decide +kernel
theorem dX0_isPinned_14 : decode cX0_isPinned 14 = .ok (.iconst 0, 1) := by decide +kernel
theorem dX0_isPinned_15 : decode cX0_isPinned 15 = .ok (.ireturn, 1) := by decide +kernel
theorem dX0_isHeldIn_0 : decode cX0_isHeldIn 0 = .ok (.aload_n 0, 1) := by decide +kernel
theorem dX0_isHeldIn_1 : decode cX0_isHeldIn 1 = .ok (.iload_n 1, 1) := by decide +kernel
theorem dX0_isHeldIn_2 : decode cX0_isHeldIn 2 = .ok (.invokevirtual 34, 3) := by decide +kernel
theorem dX0_isHeldIn_5 : decode cX0_isHeldIn 5 = .ok (.ifCond .eq 16, 3) := by decide +kernel
theorem dX0_isHeldIn_8 : decode cX0_isHeldIn 8 = .ok (.iload_n 2, 1) := by decide +kernel
theorem dX0_isHeldIn_9 : decode cX0_isHeldIn 9 = .ok (.aload_n 0, 1) := by decide +kernel
theorem dX0_isHeldIn_10 : decode cX0_isHeldIn 10 = .ok (.iload_n 1, 1) := by decide +kernel
theorem dX0_isHeldIn_11 : decode cX0_isHeldIn 11 = .ok (.invokevirtual 38, 3) := by decide +kernel
theorem dX0_isHeldIn_14 : decode cX0_isHeldIn 14 = .ok (.if_icmp .ge 7, 3) := by decide +kernel
theorem dX0_isHeldIn_17 : decode cX0_isHeldIn 17 = .ok (.iconst 1, 1) := by decide +kernel
theorem dX0_isHeldIn_18 : decode cX0_isHeldIn 18 = .ok (.goto 4, 3) := by decide +kernel
theorem dX0_isHeldIn_21 : decode cX0_isHeldIn 21 = .ok (.iconst 0, 1) := by decide +kernel
theorem dX0_isHeldIn_22 : decode cX0_isHeldIn 22 = .ok (.ireturn, 1) := by decide +kernel
theorem dX0_putHold_0 : decode cX0_putHold 0 = .ok (.iload_n 1, 1) := by decide +kernel
theorem dX0_putHold_1 : decode cX0_putHold 1 = .ok (.ifCond .lt 25, 3) := by decide +kernel
theorem dX0_putHold_4 : decode cX0_putHold 4 = .ok (.iload_n 1, 1) := by decide +kernel
theorem dX0_putHold_5 : decode cX0_putHold 5 = .ok (.aload_n 0, 1) := by decide +kernel
theorem dX0_putHold_6 : decode cX0_putHold 6 = .ok (.getfield 22, 3) := by decide +kernel
theorem dX0_putHold_9 : decode cX0_putHold 9 = .ok (.if_icmp .ge 17, 3) := by decide +kernel
theorem dX0_putHold_12 : decode cX0_putHold 12 = .ok (.aload_n 0, 1) := by decide +kernel
theorem dX0_putHold_13 : decode cX0_putHold 13 = .ok (.getfield 15, 3) := by decide +kernel
theorem dX0_putHold_16 : decode cX0_putHold 16 = .ok (.iload_n 1, 1) := by decide +kernel
theorem dX0_putHold_17 : decode cX0_putHold 17 = .ok (.iload_n 2, 1) := by decide +kernel
theorem dX0_putHold_18 : decode cX0_putHold 18 = .ok (.castore, 1) := by decide +kernel
theorem dX0_putHold_19 : decode cX0_putHold 19 = .ok (.aload_n 0, 1) := by decide +kernel
theorem dX0_putHold_20 : decode cX0_putHold 20 = .ok (.getfield 19, 3) := by decide +kernel
theorem dX0_putHold_23 : decode cX0_putHold 23 = .ok (.iload_n 1, 1) := by decide +kernel
theorem dX0_putHold_24 : decode cX0_putHold 24 = .ok (.iload_n 3, 1) := by decide +kernel
theorem dX0_putHold_25 : decode cX0_putHold 25 = .ok (.iastore, 1) := by decide +kernel
theorem dX0_putHold_26 : decode cX0_putHold 26 = .ok (.return_, 1) := by decide +kernel
theorem dX0_endHold_0 : decode cX0_endHold 0 = .ok (.aload_n 0, 1) := by decide +kernel
theorem dX0_endHold_1 : decode cX0_endHold 1 = .ok (.iload_n 1, 1) := by decide +kernel
theorem dX0_endHold_2 : decode cX0_endHold 2 = .ok (.bipush 45, 2) := by decide +kernel
theorem dX0_endHold_4 : decode cX0_endHold 4 = .ok (.iconst 0, 1) := by decide +kernel
theorem dX0_endHold_5 : decode cX0_endHold 5 = .ok (.invokevirtual 42, 3) := by decide +kernel
theorem dX0_endHold_8 : decode cX0_endHold 8 = .ok (.return_, 1) := by decide +kernel
theorem dX0_endHoldsOf_0 : decode cX0_endHoldsOf 0 = .ok (.iconst 0, 1) := by decide +kernel
theorem dX0_endHoldsOf_1 : decode cX0_endHoldsOf 1 = .ok (.istore_n 2, 1) := by decide +kernel
theorem dX0_endHoldsOf_2 : decode cX0_endHoldsOf 2 = .ok (.iload_n 2, 1) := by decide +kernel
theorem dX0_endHoldsOf_3 : decode cX0_endHoldsOf 3 = .ok (.aload_n 0, 1) := by decide +kernel
theorem dX0_endHoldsOf_4 : decode cX0_endHoldsOf 4 = .ok (.getfield 22, 3) := by decide +kernel
theorem dX0_endHoldsOf_7 : decode cX0_endHoldsOf 7 = .ok (.if_icmp .ge 31, 3) := by decide +kernel
theorem dX0_endHoldsOf_10 : decode cX0_endHoldsOf 10 = .ok (.aload_n 0, 1) := by decide +kernel
theorem dX0_endHoldsOf_11 : decode cX0_endHoldsOf 11 = .ok (.iload_n 2, 1) := by decide +kernel
theorem dX0_endHoldsOf_12 : decode cX0_endHoldsOf 12 = .ok (.invokevirtual 34, 3) := by decide +kernel
theorem dX0_endHoldsOf_15 : decode cX0_endHoldsOf 15 = .ok (.ifCond .eq 17, 3) := by decide +kernel
theorem dX0_endHoldsOf_18 : decode cX0_endHoldsOf 18 = .ok (.aload_n 0, 1) := by decide +kernel
theorem dX0_endHoldsOf_19 : decode cX0_endHoldsOf 19 = .ok (.iload_n 2, 1) := by decide +kernel
theorem dX0_endHoldsOf_20 : decode cX0_endHoldsOf 20 = .ok (.invokevirtual 38, 3) := by decide +kernel
theorem dX0_endHoldsOf_23 : decode cX0_endHoldsOf 23 = .ok (.iload_n 1, 1) := by decide +kernel
theorem dX0_endHoldsOf_24 : decode cX0_endHoldsOf 24 = .ok (.if_icmp .ne 8, 3) := by decide +kernel
theorem dX0_endHoldsOf_27 : decode cX0_endHoldsOf 27 = .ok (.aload_n 0, 1) := by decide +kernel
theorem dX0_endHoldsOf_28 : decode cX0_endHoldsOf 28 = .ok (.iload_n 2, 1) := by decide +kernel
theorem dX0_endHoldsOf_29 : decode cX0_endHoldsOf 29 = .ok (.invokevirtual 26, 3) := by decide +kernel
theorem dX0_endHoldsOf_32 : decode cX0_endHoldsOf 32 = .ok (.iinc 2 1, 3) := by decide +kernel
theorem dX0_endHoldsOf_35 : decode cX0_endHoldsOf 35 = .ok (.goto (-33), 3) := by decide +kernel
theorem dX0_endHoldsOf_38 : decode cX0_endHoldsOf 38 = .ok (.return_, 1) := by decide +kernel
theorem dX1_init_0 : decode cX1_init 0 = .ok (.aload_n 0, 1) := by decide +kernel
theorem dX1_init_1 : decode cX1_init 1 = .ok (.invokespecial 3, 3) := by decide +kernel
theorem dX1_init_4 : decode cX1_init 4 = .ok (.aload_n 0, 1) := by decide +kernel
theorem dX1_init_5 : decode cX1_init 5 = .ok (.bipush 30, 2) := by decide +kernel
theorem dX1_init_7 : decode cX1_init 7 = .ok (.newarray .int, 2) := by decide +kernel
theorem dX1_init_9 : decode cX1_init 9 = .ok (.putfield 9, 3) := by decide +kernel
theorem dX1_init_12 : decode cX1_init 12 = .ok (.aload_n 0, 1) := by decide +kernel
theorem dX1_init_13 : decode cX1_init 13 = .ok (.bipush 30, 2) := by decide +kernel
theorem dX1_init_15 : decode cX1_init 15 = .ok (.newarray .int, 2) := by decide +kernel
theorem dX1_init_17 : decode cX1_init 17 = .ok (.putfield 15, 3) := by decide +kernel
theorem dX1_init_20 : decode cX1_init 20 = .ok (.aload_n 0, 1) := by decide +kernel
theorem dX1_init_21 : decode cX1_init 21 = .ok (.bipush 30, 2) := by decide +kernel
theorem dX1_init_23 : decode cX1_init 23 = .ok (.newarray .int, 2) := by decide +kernel
theorem dX1_init_25 : decode cX1_init 25 = .ok (.putfield 18, 3) := by decide +kernel
theorem dX1_init_28 : decode cX1_init 28 = .ok (.aload_n 0, 1) := by decide +kernel
theorem dX1_init_29 : decode cX1_init 29 = .ok (.bipush 30, 2) := by decide +kernel
theorem dX1_init_31 : decode cX1_init 31 = .ok (.newarray .char, 2) := by decide +kernel
theorem dX1_init_33 : decode cX1_init 33 = .ok (.putfield 21, 3) := by decide +kernel
theorem dX1_init_36 : decode cX1_init 36 = .ok (.return_, 1) := by decide +kernel
theorem dX1_count_0 : decode cX1_count 0 = .ok (.aload_n 0, 1) := by decide +kernel
theorem dX1_count_1 : decode cX1_count 1 = .ok (.getfield 25, 3) := by decide +kernel
theorem dX1_count_4 : decode cX1_count 4 = .ok (.ireturn, 1) := by decide +kernel
theorem dX1_register_0 : decode cX1_register 0 = .ok (.aload_n 0, 1) := by decide +kernel
theorem dX1_register_1 : decode cX1_register 1 = .ok (.getfield 25, 3) := by decide +kernel
theorem dX1_register_4 : decode cX1_register 4 = .ok (.bipush 30, 2) := by decide +kernel
theorem dX1_register_6 : decode cX1_register 6 = .ok (.if_icmp .lt 5, 3) := by decide +kernel
theorem dX1_register_9 : decode cX1_register 9 = .ok (.iconst (-1), 1) := by decide +kernel
theorem dX1_register_10 : decode cX1_register 10 = .ok (.ireturn, 1) := by decide +kernel
theorem dX1_register_11 : decode cX1_register 11 = .ok (.aload_n 0, 1) := by decide +kernel
theorem dX1_register_12 : decode cX1_register 12 = .ok (.getfield 25, 3) := by decide +kernel
theorem dX1_register_15 : decode cX1_register 15 = .ok (.istore 4, 2) := by decide +kernel
theorem dX1_register_17 : decode cX1_register 17 = .ok (.aload_n 0, 1) := by decide +kernel
theorem dX1_register_18 : decode cX1_register 18 = .ok (.dup, 1) := by decide +kernel
theorem dX1_register_19 : decode cX1_register 19 = .ok (.getfield 25, 3) := by decide +kernel
theorem dX1_register_22 : decode cX1_register 22 = .ok (.iconst 1, 1) := by decide +kernel
theorem dX1_register_23 : decode cX1_register 23 = .ok (.iadd, 1) := by decide +kernel
theorem dX1_register_24 : decode cX1_register 24 = .ok (.putfield 25, 3) := by decide +kernel
theorem dX1_register_27 : decode cX1_register 27 = .ok (.aload_n 0, 1) := by decide +kernel
theorem dX1_register_28 : decode cX1_register 28 = .ok (.getfield 9, 3) := by decide +kernel
theorem dX1_register_31 : decode cX1_register 31 = .ok (.iload 4, 2) := by decide +kernel
theorem dX1_register_33 : decode cX1_register 33 = .ok (.iload_n 1, 1) := by decide +kernel
theorem dX1_register_34 : decode cX1_register 34 = .ok (.iastore, 1) := by decide +kernel
theorem dX1_register_35 : decode cX1_register 35 = .ok (.aload_n 0, 1) := by decide +kernel
theorem dX1_register_36 : decode cX1_register 36 = .ok (.getfield 15, 3) := by decide +kernel
theorem dX1_register_39 : decode cX1_register 39 = .ok (.iload 4, 2) := by decide +kernel
theorem dX1_register_41 : decode cX1_register 41 = .ok (.iload_n 2, 1) := by decide +kernel
theorem dX1_register_42 : decode cX1_register 42 = .ok (.iastore, 1) := by decide +kernel
theorem dX1_register_43 : decode cX1_register 43 = .ok (.aload_n 0, 1) := by decide +kernel
theorem dX1_register_44 : decode cX1_register 44 = .ok (.getfield 18, 3) := by decide +kernel
theorem dX1_register_47 : decode cX1_register 47 = .ok (.iload 4, 2) := by decide +kernel
theorem dX1_register_49 : decode cX1_register 49 = .ok (.iload_n 3, 1) := by decide +kernel
theorem dX1_register_50 : decode cX1_register 50 = .ok (.iastore, 1) := by decide +kernel
theorem dX1_register_51 : decode cX1_register 51 = .ok (.aload_n 0, 1) := by decide +kernel
theorem dX1_register_52 : decode cX1_register 52 = .ok (.getfield 21, 3) := by decide +kernel
theorem dX1_register_55 : decode cX1_register 55 = .ok (.iload 4, 2) := by decide +kernel
theorem dX1_register_57 : decode cX1_register 57 = .ok (.bipush 98, 2) := by decide +kernel
theorem dX1_register_59 : decode cX1_register 59 = .ok (.castore, 1) := by decide +kernel
theorem dX1_register_60 : decode cX1_register 60 = .ok (.iload 4, 2) := by decide +kernel
theorem dX1_register_62 : decode cX1_register 62 = .ok (.ireturn, 1) := by decide +kernel
theorem dX1_has_0 : decode cX1_has 0 = .ok (.iload_n 1, 1) := by decide +kernel
theorem dX1_has_1 : decode cX1_has 1 = .ok (.ifCond .lt 15, 3) := by decide +kernel
theorem dX1_has_4 : decode cX1_has 4 = .ok (.iload_n 1, 1) := by decide +kernel
theorem dX1_has_5 : decode cX1_has 5 = .ok (.aload_n 0, 1) := by decide +kernel
theorem dX1_has_6 : decode cX1_has 6 = .ok (.getfield 25, 3) := by decide +kernel
theorem dX1_has_9 : decode cX1_has 9 = .ok (.if_icmp .ge 7, 3) := by decide +kernel
theorem dX1_has_12 : decode cX1_has 12 = .ok (.iconst 1, 1) := by decide +kernel
theorem dX1_has_13 : decode cX1_has 13 = .ok (.goto 4, 3) := by decide +kernel
theorem dX1_has_16 : decode cX1_has 16 = .ok (.iconst 0, 1) := by decide +kernel
theorem dX1_has_17 : decode cX1_has 17 = .ok (.ireturn, 1) := by decide +kernel
theorem dX1_boxOf_0 : decode cX1_boxOf 0 = .ok (.aload_n 0, 1) := by decide +kernel
theorem dX1_boxOf_1 : decode cX1_boxOf 1 = .ok (.iload_n 1, 1) := by decide +kernel
theorem dX1_boxOf_2 : decode cX1_boxOf 2 = .ok (.invokevirtual 29, 3) := by decide +kernel
theorem dX1_boxOf_5 : decode cX1_boxOf 5 = .ok (.ifCond .eq 12, 3) := by decide +kernel
theorem dX1_boxOf_8 : decode cX1_boxOf 8 = .ok (.aload_n 0, 1) := by decide +kernel
theorem dX1_boxOf_9 : decode cX1_boxOf 9 = .ok (.getfield 9, 3) := by decide +kernel
theorem dX1_boxOf_12 : decode cX1_boxOf 12 = .ok (.iload_n 1, 1) := by decide +kernel
theorem dX1_boxOf_13 : decode cX1_boxOf 13 = .ok (.iaload, 1) := by decide +kernel
theorem dX1_boxOf_14 : decode cX1_boxOf 14 = .ok (.goto 4, 3) := by decide +kernel
theorem dX1_boxOf_17 : decode cX1_boxOf 17 = .ok (.iconst (-1), 1) := by decide +kernel
theorem dX1_boxOf_18 : decode cX1_boxOf 18 = .ok (.ireturn, 1) := by decide +kernel
theorem dX1_hourOf_0 : decode cX1_hourOf 0 = .ok (.aload_n 0, 1) := by decide +kernel
theorem dX1_hourOf_1 : decode cX1_hourOf 1 = .ok (.iload_n 1, 1) := by decide +kernel
theorem dX1_hourOf_2 : decode cX1_hourOf 2 = .ok (.invokevirtual 29, 3) := by decide +kernel
theorem dX1_hourOf_5 : decode cX1_hourOf 5 = .ok (.ifCond .eq 12, 3) := by decide +kernel
theorem dX1_hourOf_8 : decode cX1_hourOf 8 = .ok (.aload_n 0, 1) := by decide +kernel
theorem dX1_hourOf_9 : decode cX1_hourOf 9 = .ok (.getfield 15, 3) := by decide +kernel
theorem dX1_hourOf_12 : decode cX1_hourOf 12 = .ok (.iload_n 1, 1) := by decide +kernel
theorem dX1_hourOf_13 : decode cX1_hourOf 13 = .ok (.iaload, 1) := by decide +kernel
theorem dX1_hourOf_14 : decode cX1_hourOf 14 = .ok (.goto 4, 3) := by decide +kernel
theorem dX1_hourOf_17 : decode cX1_hourOf 17 = .ok (.iconst (-1), 1) := by decide +kernel
theorem dX1_hourOf_18 : decode cX1_hourOf 18 = .ok (.ireturn, 1) := by decide +kernel
theorem dX1_state_0 : decode cX1_state 0 = .ok (.aload_n 0, 1) := by decide +kernel
theorem dX1_state_1 : decode cX1_state 1 = .ok (.iload_n 1, 1) := by decide +kernel
theorem dX1_state_2 : decode cX1_state 2 = .ok (.invokevirtual 29, 3) := by decide +kernel
theorem dX1_state_5 : decode cX1_state 5 = .ok (.ifCond .eq 12, 3) := by decide +kernel
theorem dX1_state_8 : decode cX1_state 8 = .ok (.aload_n 0, 1) := by decide +kernel
theorem dX1_state_9 : decode cX1_state 9 = .ok (.getfield 21, 3) := by decide +kernel
theorem dX1_state_12 : decode cX1_state 12 = .ok (.iload_n 1, 1) := by decide +kernel
theorem dX1_state_13 : decode cX1_state 13 = .ok (.caload, 1) := by decide +kernel
theorem dX1_state_14 : decode cX1_state 14 = .ok (.goto 5, 3) := by decide +kernel
theorem dX1_state_17 : decode cX1_state 17 = .ok (.bipush 99, 2) := by decide +kernel
theorem dX1_state_19 : decode cX1_state 19 = .ok (.ireturn, 1) := by decide +kernel
theorem dX1_turn_0 : decode cX1_turn 0 = .ok (.aload_n 0, 1) := by decide +kernel
theorem dX1_turn_1 : decode cX1_turn 1 = .ok (.iload_n 1, 1) := by decide +kernel
theorem dX1_turn_2 : decode cX1_turn 2 = .ok (.invokevirtual 29, 3) := by decide +kernel
theorem dX1_turn_5 : decode cX1_turn 5 = .ok (.ifCond .eq 10, 3) := by decide +kernel
theorem dX1_turn_8 : decode cX1_turn 8 = .ok (.aload_n 0, 1) := by decide +kernel
theorem dX1_turn_9 : decode cX1_turn 9 = .ok (.getfield 21, 3) := by decide +kernel
theorem dX1_turn_12 : decode cX1_turn 12 = .ok (.iload_n 1, 1) := by decide +kernel
theorem dX1_turn_13 : decode cX1_turn 13 = .ok (.iload_n 2, 1) := by decide +kernel
theorem dX1_turn_14 : decode cX1_turn 14 = .ok (.castore, 1) := by decide +kernel
theorem dX1_turn_15 : decode cX1_turn 15 = .ok (.return_, 1) := by decide +kernel
theorem dX1_bookedFor_0 : decode cX1_bookedFor 0 = .ok (.iconst 0, 1) := by decide +kernel
theorem dX1_bookedFor_1 : decode cX1_bookedFor 1 = .ok (.istore_n 2, 1) := by decide +kernel
theorem dX1_bookedFor_2 : decode cX1_bookedFor 2 = .ok (.iload_n 2, 1) := by decide +kernel
theorem dX1_bookedFor_3 : decode cX1_bookedFor 3 = .ok (.aload_n 0, 1) := by decide +kernel
theorem dX1_bookedFor_4 : decode cX1_bookedFor 4 = .ok (.getfield 25, 3) := by decide +kernel
theorem dX1_bookedFor_7 : decode cX1_bookedFor 7 = .ok (.if_icmp .ge 32, 3) := by decide +kernel
theorem dX1_bookedFor_10 : decode cX1_bookedFor 10 = .ok (.aload_n 0, 1) := by decide +kernel
theorem dX1_bookedFor_11 : decode cX1_bookedFor 11 = .ok (.getfield 21, 3) := by decide +kernel
theorem dX1_bookedFor_14 : decode cX1_bookedFor 14 = .ok (.iload_n 2, 1) := by decide +kernel
theorem dX1_bookedFor_15 : decode cX1_bookedFor 15 = .ok (.caload, 1) := by decide +kernel
theorem dX1_bookedFor_16 : decode cX1_bookedFor 16 = .ok (.bipush 98, 2) := by decide +kernel
theorem dX1_bookedFor_18 : decode cX1_bookedFor 18 = .ok (.if_icmp .ne 15, 3) := by decide +kernel
theorem dX1_bookedFor_21 : decode cX1_bookedFor 21 = .ok (.aload_n 0, 1) := by decide +kernel
theorem dX1_bookedFor_22 : decode cX1_bookedFor 22 = .ok (.getfield 9, 3) := by decide +kernel
theorem dX1_bookedFor_25 : decode cX1_bookedFor 25 = .ok (.iload_n 2, 1) := by decide +kernel
theorem dX1_bookedFor_26 : decode cX1_bookedFor 26 = .ok (.iaload, 1) := by decide +kernel
theorem dX1_bookedFor_27 : decode cX1_bookedFor 27 = .ok (.iload_n 1, 1) := by decide +kernel
theorem dX1_bookedFor_28 : decode cX1_bookedFor 28 = .ok (.if_icmp .ne 5, 3) := by decide +kernel
theorem dX1_bookedFor_31 : decode cX1_bookedFor 31 = .ok (.iload_n 2, 1) := by decide +kernel
theorem dX1_bookedFor_32 : decode cX1_bookedFor 32 = .ok (.ireturn, 1) := by decide +kernel
theorem dX1_bookedFor_33 : decode cX1_bookedFor 33 = .ok (.iinc 2 1, 3) := by decide +kernel
theorem dX1_bookedFor_36 : decode cX1_bookedFor 36 = .ok (.goto (-34), 3) := by decide +kernel
theorem dX1_bookedFor_39 : decode cX1_bookedFor 39 = .ok (.iconst (-1), 1) := by decide +kernel
theorem dX1_bookedFor_40 : decode cX1_bookedFor 40 = .ok (.ireturn, 1) := by decide +kernel
theorem dX1_bookedAt_0 : decode cX1_bookedAt 0 = .ok (.iconst 0, 1) := by decide +kernel
theorem dX1_bookedAt_1 : decode cX1_bookedAt 1 = .ok (.istore_n 3, 1) := by decide +kernel
theorem dX1_bookedAt_2 : decode cX1_bookedAt 2 = .ok (.iload_n 3, 1) := by decide +kernel
theorem dX1_bookedAt_3 : decode cX1_bookedAt 3 = .ok (.aload_n 0, 1) := by decide +kernel
theorem dX1_bookedAt_4 : decode cX1_bookedAt 4 = .ok (.getfield 25, 3) := by decide +kernel
theorem dX1_bookedAt_7 : decode cX1_bookedAt 7 = .ok (.if_icmp .ge 42, 3) := by decide +kernel
theorem dX1_bookedAt_10 : decode cX1_bookedAt 10 = .ok (.aload_n 0, 1) := by decide +kernel
theorem dX1_bookedAt_11 : decode cX1_bookedAt 11 = .ok (.getfield 21, 3) := by decide +kernel
theorem dX1_bookedAt_14 : decode cX1_bookedAt 14 = .ok (.iload_n 3, 1) := by decide +kernel
theorem dX1_bookedAt_15 : decode cX1_bookedAt 15 = .ok (.caload, 1) := by decide +kernel
theorem dX1_bookedAt_16 : decode cX1_bookedAt 16 = .ok (.bipush 98, 2) := by decide +kernel
theorem dX1_bookedAt_18 : decode cX1_bookedAt 18 = .ok (.if_icmp .ne 25, 3) := by decide +kernel
theorem dX1_bookedAt_21 : decode cX1_bookedAt 21 = .ok (.aload_n 0, 1) := by decide +kernel
theorem dX1_bookedAt_22 : decode cX1_bookedAt 22 = .ok (.getfield 18, 3) := by decide +kernel
theorem dX1_bookedAt_25 : decode cX1_bookedAt 25 = .ok (.iload_n 3, 1) := by decide +kernel
theorem dX1_bookedAt_26 : decode cX1_bookedAt 26 = .ok (.iaload, 1) := by decide +kernel
theorem dX1_bookedAt_27 : decode cX1_bookedAt 27 = .ok (.iload_n 1, 1) := by decide +kernel
theorem dX1_bookedAt_28 : decode cX1_bookedAt 28 = .ok (.if_icmp .ne 15, 3) := by decide +kernel
theorem dX1_bookedAt_31 : decode cX1_bookedAt 31 = .ok (.aload_n 0, 1) := by decide +kernel
theorem dX1_bookedAt_32 : decode cX1_bookedAt 32 = .ok (.getfield 15, 3) := by decide +kernel
theorem dX1_bookedAt_35 : decode cX1_bookedAt 35 = .ok (.iload_n 3, 1) := by decide +kernel
theorem dX1_bookedAt_36 : decode cX1_bookedAt 36 = .ok (.iaload, 1) := by decide +kernel
theorem dX1_bookedAt_37 : decode cX1_bookedAt 37 = .ok (.iload_n 2, 1) := by decide +kernel
theorem dX1_bookedAt_38 : decode cX1_bookedAt 38 = .ok (.if_icmp .ne 5, 3) := by decide +kernel
theorem dX1_bookedAt_41 : decode cX1_bookedAt 41 = .ok (.iload_n 3, 1) := by decide +kernel
theorem dX1_bookedAt_42 : decode cX1_bookedAt 42 = .ok (.ireturn, 1) := by decide +kernel
theorem dX1_bookedAt_43 : decode cX1_bookedAt 43 = .ok (.iinc 3 1, 3) := by decide +kernel
theorem dX1_bookedAt_46 : decode cX1_bookedAt 46 = .ok (.goto (-44), 3) := by decide +kernel
theorem dX1_bookedAt_49 : decode cX1_bookedAt 49 = .ok (.iconst (-1), 1) := by decide +kernel
theorem dX1_bookedAt_50 : decode cX1_bookedAt 50 = .ok (.ireturn, 1) := by decide +kernel
theorem dX1_hasFreeLane_0 : decode cX1_hasFreeLane 0 = .ok (.iconst 0, 1) := by decide +kernel
theorem dX1_hasFreeLane_1 : decode cX1_hasFreeLane 1 = .ok (.istore_n 2, 1) := by decide +kernel
theorem dX1_hasFreeLane_2 : decode cX1_hasFreeLane 2 = .ok (.iload_n 2, 1) := by decide +kernel
theorem dX1_hasFreeLane_3 : decode cX1_hasFreeLane 3 = .ok (.iconst 3, 1) := by decide +kernel
theorem dX1_hasFreeLane_4 : decode cX1_hasFreeLane 4 = .ok (.if_icmp .ge 21, 3) := by decide +kernel
theorem dX1_hasFreeLane_7 : decode cX1_hasFreeLane 7 = .ok (.aload_n 0, 1) := by decide +kernel
theorem dX1_hasFreeLane_8 : decode cX1_hasFreeLane 8 = .ok (.iload_n 2, 1) := by decide +kernel
theorem dX1_hasFreeLane_9 : decode cX1_hasFreeLane 9 = .ok (.iload_n 1, 1) := by decide +kernel
theorem dX1_hasFreeLane_10 : decode cX1_hasFreeLane 10 = .ok (.invokevirtual 33, 3) := by decide +kernel
theorem dX1_hasFreeLane_13 : decode cX1_hasFreeLane 13 = .ok (.iconst (-1), 1) := by decide +kernel
theorem dX1_hasFreeLane_14 : decode cX1_hasFreeLane 14 = .ok (.if_icmp .ne 5, 3) := by decide +kernel
theorem dX1_hasFreeLane_17 : decode cX1_hasFreeLane 17 = .ok (.iconst 1, 1) := by decide +kernel
theorem dX1_hasFreeLane_18 : decode cX1_hasFreeLane 18 = .ok (.ireturn, 1) := by decide +kernel
theorem dX1_hasFreeLane_19 : decode cX1_hasFreeLane 19 = .ok (.iinc 2 1, 3) := by decide +kernel
theorem dX1_hasFreeLane_22 : decode cX1_hasFreeLane 22 = .ok (.goto (-20), 3) := by decide +kernel
theorem dX1_hasFreeLane_25 : decode cX1_hasFreeLane 25 = .ok (.iconst 0, 1) := by decide +kernel
theorem dX1_hasFreeLane_26 : decode cX1_hasFreeLane 26 = .ok (.ireturn, 1) := by decide +kernel
theorem dX1_countIn_0 : decode cX1_countIn 0 = .ok (.iconst 0, 1) := by decide +kernel
theorem dX1_countIn_1 : decode cX1_countIn 1 = .ok (.istore_n 2, 1) := by decide +kernel
theorem dX1_countIn_2 : decode cX1_countIn 2 = .ok (.iconst 0, 1) := by decide +kernel
theorem dX1_countIn_3 : decode cX1_countIn 3 = .ok (.istore_n 3, 1) := by decide +kernel
theorem dX1_countIn_4 : decode cX1_countIn 4 = .ok (.iload_n 3, 1) := by decide +kernel
theorem dX1_countIn_5 : decode cX1_countIn 5 = .ok (.aload_n 0, 1) := by decide +kernel
theorem dX1_countIn_6 : decode cX1_countIn 6 = .ok (.getfield 25, 3) := by decide +kernel
theorem dX1_countIn_9 : decode cX1_countIn 9 = .ok (.if_icmp .ge 22, 3) := by decide +kernel
theorem dX1_countIn_12 : decode cX1_countIn 12 = .ok (.aload_n 0, 1) := by decide +kernel
theorem dX1_countIn_13 : decode cX1_countIn 13 = .ok (.getfield 21, 3) := by decide +kernel
theorem dX1_countIn_16 : decode cX1_countIn 16 = .ok (.iload_n 3, 1) := by decide +kernel
theorem dX1_countIn_17 : decode cX1_countIn 17 = .ok (.caload, 1) := by decide +kernel
theorem dX1_countIn_18 : decode cX1_countIn 18 = .ok (.iload_n 1, 1) := by decide +kernel
theorem dX1_countIn_19 : decode cX1_countIn 19 = .ok (.if_icmp .ne 6, 3) := by decide +kernel
theorem dX1_countIn_22 : decode cX1_countIn 22 = .ok (.iinc 2 1, 3) := by decide +kernel
theorem dX1_countIn_25 : decode cX1_countIn 25 = .ok (.iinc 3 1, 3) := by decide +kernel
theorem dX1_countIn_28 : decode cX1_countIn 28 = .ok (.goto (-24), 3) := by decide +kernel
theorem dX1_countIn_31 : decode cX1_countIn 31 = .ok (.iload_n 2, 1) := by decide +kernel
theorem dX1_countIn_32 : decode cX1_countIn 32 = .ok (.ireturn, 1) := by decide +kernel
theorem dX2_init_0 : decode cX2_init 0 = .ok (.aload_n 0, 1) := by decide +kernel
theorem dX2_init_1 : decode cX2_init 1 = .ok (.invokespecial 1, 3) := by decide +kernel
theorem dX2_init_4 : decode cX2_init 4 = .ok (.aload_n 0, 1) := by decide +kernel
theorem dX2_init_5 : decode cX2_init 5 = .ok (.sipush 1024, 3) := by decide +kernel
theorem dX2_init_8 : decode cX2_init 8 = .ok (.newarray .long, 2) := by decide +kernel
theorem dX2_init_10 : decode cX2_init 10 = .ok (.putfield 9, 3) := by decide +kernel
theorem dX2_init_13 : decode cX2_init 13 = .ok (.return_, 1) := by decide +kernel
theorem dX2_isEmpty_0 : decode cX2_isEmpty 0 = .ok (.aload_n 0, 1) := by decide +kernel
theorem dX2_isEmpty_1 : decode cX2_isEmpty 1 = .ok (.getfield 13, 3) := by decide +kernel
theorem dX2_isEmpty_4 : decode cX2_isEmpty 4 = .ok (.ifCond .ne 7, 3) := by decide +kernel
theorem dX2_isEmpty_7 : decode cX2_isEmpty 7 = .ok (.iconst 1, 1) := by decide +kernel
theorem dX2_isEmpty_8 : decode cX2_isEmpty 8 = .ok (.goto 4, 3) := by decide +kernel
theorem dX2_isEmpty_11 : decode cX2_isEmpty 11 = .ok (.iconst 0, 1) := by decide +kernel
theorem dX2_isEmpty_12 : decode cX2_isEmpty 12 = .ok (.ireturn, 1) := by decide +kernel
theorem dX2_clear_0 : decode cX2_clear 0 = .ok (.aload_n 0, 1) := by decide +kernel
theorem dX2_clear_1 : decode cX2_clear 1 = .ok (.iconst 0, 1) := by decide +kernel
theorem dX2_clear_2 : decode cX2_clear 2 = .ok (.putfield 13, 3) := by decide +kernel
theorem dX2_clear_5 : decode cX2_clear 5 = .ok (.return_, 1) := by decide +kernel
theorem dX2_add_0 : decode cX2_add 0 = .ok (.aload_n 0, 1) := by decide +kernel
theorem dX2_add_1 : decode cX2_add 1 = .ok (.getfield 13, 3) := by decide +kernel
theorem dX2_add_4 : decode cX2_add 4 = .ok (.sipush 1024, 3) := by decide +kernel
theorem dX2_add_7 : decode cX2_add 7 = .ok (.if_icmp .lt 4, 3) := by decide +kernel
theorem dX2_add_10 : decode cX2_add 10 = .ok (.return_, 1) := by decide +kernel
theorem dX2_add_11 : decode cX2_add 11 = .ok (.aload_n 0, 1) := by decide +kernel
theorem dX2_add_12 : decode cX2_add 12 = .ok (.getfield 13, 3) := by decide +kernel
theorem dX2_add_15 : decode cX2_add 15 = .ok (.istore_n 3, 1) := by decide +kernel
theorem dX2_add_16 : decode cX2_add 16 = .ok (.aload_n 0, 1) := by decide +kernel
theorem dX2_add_17 : decode cX2_add 17 = .ok (.dup, 1) := by decide +kernel
theorem dX2_add_18 : decode cX2_add 18 = .ok (.getfield 13, 3) := by decide +kernel
theorem dX2_add_21 : decode cX2_add 21 = .ok (.iconst 1, 1) := by decide +kernel
theorem dX2_add_22 : decode cX2_add 22 = .ok (.iadd, 1) := by decide +kernel
theorem dX2_add_23 : decode cX2_add 23 = .ok (.putfield 13, 3) := by decide +kernel
theorem dX2_add_26 : decode cX2_add 26 = .ok (.iload_n 3, 1) := by decide +kernel
theorem dX2_add_27 : decode cX2_add 27 = .ok (.ifCond .le 43, 3) := by decide +kernel
theorem dX2_add_30 : decode cX2_add 30 = .ok (.aload_n 0, 1) := by decide +kernel
theorem dX2_add_31 : decode cX2_add 31 = .ok (.getfield 9, 3) := by decide +kernel
theorem dX2_add_34 : decode cX2_add 34 = .ok (.iload_n 3, 1) := by decide +kernel
theorem dX2_add_35 : decode cX2_add 35 = .ok (.iconst 1, 1) := by decide +kernel
theorem dX2_add_36 : decode cX2_add 36 = .ok (.isub, 1) := by decide +kernel
theorem dX2_add_37 : decode cX2_add 37 = .ok (.iconst 2, 1) := by decide +kernel
theorem dX2_add_38 : decode cX2_add 38 = .ok (.idiv, 1) := by decide +kernel
theorem dX2_add_39 : decode cX2_add 39 = .ok (.laload, 1) := by decide +kernel
theorem dX2_add_40 : decode cX2_add 40 = .ok (.lload_n 1, 1) := by decide +kernel
theorem dX2_add_41 : decode cX2_add 41 = .ok (.lcmp, 1) := by decide +kernel
theorem dX2_add_42 : decode cX2_add 42 = .ok (.ifCond .le 28, 3) := by decide +kernel
theorem dX2_add_45 : decode cX2_add 45 = .ok (.aload_n 0, 1) := by decide +kernel
theorem dX2_add_46 : decode cX2_add 46 = .ok (.getfield 9, 3) := by decide +kernel
theorem dX2_add_49 : decode cX2_add 49 = .ok (.iload_n 3, 1) := by decide +kernel
theorem dX2_add_50 : decode cX2_add 50 = .ok (.aload_n 0, 1) := by decide +kernel
theorem dX2_add_51 : decode cX2_add 51 = .ok (.getfield 9, 3) := by decide +kernel
theorem dX2_add_54 : decode cX2_add 54 = .ok (.iload_n 3, 1) := by decide +kernel
theorem dX2_add_55 : decode cX2_add 55 = .ok (.iconst 1, 1) := by decide +kernel
theorem dX2_add_56 : decode cX2_add 56 = .ok (.isub, 1) := by decide +kernel
theorem dX2_add_57 : decode cX2_add 57 = .ok (.iconst 2, 1) := by decide +kernel
theorem dX2_add_58 : decode cX2_add 58 = .ok (.idiv, 1) := by decide +kernel
theorem dX2_add_59 : decode cX2_add 59 = .ok (.laload, 1) := by decide +kernel
theorem dX2_add_60 : decode cX2_add 60 = .ok (.lastore, 1) := by decide +kernel
theorem dX2_add_61 : decode cX2_add 61 = .ok (.iload_n 3, 1) := by decide +kernel
theorem dX2_add_62 : decode cX2_add 62 = .ok (.iconst 1, 1) := by decide +kernel
theorem dX2_add_63 : decode cX2_add 63 = .ok (.isub, 1) := by decide +kernel
theorem dX2_add_64 : decode cX2_add 64 = .ok (.iconst 2, 1) := by decide +kernel
theorem dX2_add_65 : decode cX2_add 65 = .ok (.idiv, 1) := by decide +kernel
theorem dX2_add_66 : decode cX2_add 66 = .ok (.istore_n 3, 1) := by decide +kernel
theorem dX2_add_67 : decode cX2_add 67 = .ok (.goto (-41), 3) := by decide +kernel
theorem dX2_add_70 : decode cX2_add 70 = .ok (.aload_n 0, 1) := by decide +kernel
theorem dX2_add_71 : decode cX2_add 71 = .ok (.getfield 9, 3) := by decide +kernel
theorem dX2_add_74 : decode cX2_add 74 = .ok (.iload_n 3, 1) := by decide +kernel
theorem dX2_add_75 : decode cX2_add 75 = .ok (.lload_n 1, 1) := by decide +kernel
theorem dX2_add_76 : decode cX2_add 76 = .ok (.lastore, 1) := by decide +kernel
theorem dX2_add_77 : decode cX2_add 77 = .ok (.return_, 1) := by decide +kernel
theorem dX2_takeFirst_0 : decode cX2_takeFirst 0 = .ok (.aload_n 0, 1) := by decide +kernel
theorem dX2_takeFirst_1 : decode cX2_takeFirst 1 = .ok (.getfield 13, 3) := by decide +kernel
theorem dX2_takeFirst_4 : decode cX2_takeFirst 4 = .ok (.ifCond .ne 5, 3) := by decide +kernel
theorem dX2_takeFirst_7 : decode cX2_takeFirst 7 = .ok (.lconst 0, 1) := by decide +kernel
theorem dX2_takeFirst_8 : decode cX2_takeFirst 8 = .ok (.lreturn, 1) := by decide +kernel
theorem dX2_takeFirst_9 : decode cX2_takeFirst 9 = .ok (.aload_n 0, 1) := by decide +kernel
theorem dX2_takeFirst_10 : decode cX2_takeFirst 10 = .ok (.getfield 9, 3) := by decide +kernel
theorem dX2_takeFirst_13 : decode cX2_takeFirst 13 = .ok (.iconst 0, 1) := by decide +kernel
theorem dX2_takeFirst_14 : decode cX2_takeFirst 14 = .ok (.laload, 1) := by decide +kernel
theorem dX2_takeFirst_15 : decode cX2_takeFirst 15 = .ok (.lstore_n 1, 1) := by decide +kernel
theorem dX2_takeFirst_16 : decode cX2_takeFirst 16 = .ok (.aload_n 0, 1) := by decide +kernel
theorem dX2_takeFirst_17 : decode cX2_takeFirst 17 = .ok (.dup, 1) := by decide +kernel
theorem dX2_takeFirst_18 : decode cX2_takeFirst 18 = .ok (.getfield 13, 3) := by decide +kernel
theorem dX2_takeFirst_21 : decode cX2_takeFirst 21 = .ok (.iconst 1, 1) := by decide +kernel
theorem dX2_takeFirst_22 : decode cX2_takeFirst 22 = .ok (.isub, 1) := by decide +kernel
theorem dX2_takeFirst_23 : decode cX2_takeFirst 23 = .ok (.putfield 13, 3) := by decide +kernel
theorem dX2_takeFirst_26 : decode cX2_takeFirst 26 = .ok (.aload_n 0, 1) := by decide +kernel
theorem dX2_takeFirst_27 : decode cX2_takeFirst 27 = .ok (.aload_n 0, 1) := by decide +kernel
theorem dX2_takeFirst_28 : decode cX2_takeFirst 28 = .ok (.getfield 9, 3) := by decide +kernel
theorem dX2_takeFirst_31 : decode cX2_takeFirst 31 = .ok (.aload_n 0, 1) := by decide +kernel
theorem dX2_takeFirst_32 : decode cX2_takeFirst 32 = .ok (.getfield 13, 3) := by decide +kernel
theorem dX2_takeFirst_35 : decode cX2_takeFirst 35 = .ok (.laload, 1) := by decide +kernel
theorem dX2_takeFirst_36 : decode cX2_takeFirst 36 = .ok (.invokevirtual 17, 3) := by decide +kernel
theorem dX2_takeFirst_39 : decode cX2_takeFirst 39 = .ok (.lload_n 1, 1) := by decide +kernel
theorem dX2_takeFirst_40 : decode cX2_takeFirst 40 = .ok (.lreturn, 1) := by decide +kernel
theorem dX2_sinkFromTop_0 : decode cX2_sinkFromTop 0 = .ok (.iconst 0, 1) := by decide +kernel
theorem dX2_sinkFromTop_1 : decode cX2_sinkFromTop 1 = .ok (.istore_n 3, 1) := by decide +kernel
theorem dX2_sinkFromTop_2 : decode cX2_sinkFromTop 2 = .ok (.iconst 1, 1) := by decide +kernel
theorem dX2_sinkFromTop_3 : decode cX2_sinkFromTop 3 = .ok (.istore 4, 2) := by decide +kernel
theorem dX2_sinkFromTop_5 : decode cX2_sinkFromTop 5 = .ok (.iload 4, 2) := by decide +kernel
theorem dX2_sinkFromTop_7 : decode cX2_sinkFromTop 7 = .ok (.aload_n 0, 1) := by decide +kernel
theorem dX2_sinkFromTop_8 : decode cX2_sinkFromTop 8 = .ok (.getfield 13, 3) := by decide +kernel
theorem dX2_sinkFromTop_11 : decode cX2_sinkFromTop 11 = .ok (.if_icmp .ge 78, 3) := by decide +kernel
theorem dX2_sinkFromTop_14 : decode cX2_sinkFromTop 14 = .ok (.iload 4, 2) := by decide +kernel
theorem dX2_sinkFromTop_16 : decode cX2_sinkFromTop 16 = .ok (.iconst 1, 1) := by decide +kernel
theorem dX2_sinkFromTop_17 : decode cX2_sinkFromTop 17 = .ok (.iadd, 1) := by decide +kernel
theorem dX2_sinkFromTop_18 : decode cX2_sinkFromTop 18 = .ok (.aload_n 0, 1) := by decide +kernel
theorem dX2_sinkFromTop_19 : decode cX2_sinkFromTop 19 = .ok (.getfield 13, 3) := by decide +kernel
theorem dX2_sinkFromTop_22 : decode cX2_sinkFromTop 22 = .ok (.if_icmp .ge 26, 3) := by decide +kernel
theorem dX2_sinkFromTop_25 : decode cX2_sinkFromTop 25 = .ok (.aload_n 0, 1) := by decide +kernel
theorem dX2_sinkFromTop_26 : decode cX2_sinkFromTop 26 = .ok (.getfield 9, 3) := by decide +kernel
theorem dX2_sinkFromTop_29 : decode cX2_sinkFromTop 29 = .ok (.iload 4, 2) := by decide +kernel
theorem dX2_sinkFromTop_31 : decode cX2_sinkFromTop 31 = .ok (.iconst 1, 1) := by decide +kernel
theorem dX2_sinkFromTop_32 : decode cX2_sinkFromTop 32 = .ok (.iadd, 1) := by decide +kernel
theorem dX2_sinkFromTop_33 : decode cX2_sinkFromTop 33 = .ok (.laload, 1) := by decide +kernel
theorem dX2_sinkFromTop_34 : decode cX2_sinkFromTop 34 = .ok (.aload_n 0, 1) := by decide +kernel
theorem dX2_sinkFromTop_35 : decode cX2_sinkFromTop 35 = .ok (.getfield 9, 3) := by decide +kernel
theorem dX2_sinkFromTop_38 : decode cX2_sinkFromTop 38 = .ok (.iload 4, 2) := by decide +kernel
theorem dX2_sinkFromTop_40 : decode cX2_sinkFromTop 40 = .ok (.laload, 1) := by decide +kernel
theorem dX2_sinkFromTop_41 : decode cX2_sinkFromTop 41 = .ok (.lcmp, 1) := by decide +kernel
theorem dX2_sinkFromTop_42 : decode cX2_sinkFromTop 42 = .ok (.ifCond .ge 6, 3) := by decide +kernel
theorem dX2_sinkFromTop_45 : decode cX2_sinkFromTop 45 = .ok (.iinc 4 1, 3) := by decide +kernel
theorem dX2_sinkFromTop_48 : decode cX2_sinkFromTop 48 = .ok (.aload_n 0, 1) := by decide +kernel
theorem dX2_sinkFromTop_49 : decode cX2_sinkFromTop 49 = .ok (.getfield 9, 3) := by decide +kernel
theorem dX2_sinkFromTop_52 : decode cX2_sinkFromTop 52 = .ok (.iload 4, 2) := by decide +kernel
theorem dX2_sinkFromTop_54 : decode cX2_sinkFromTop 54 = .ok (.laload, 1) := by decide +kernel
theorem dX2_sinkFromTop_55 : decode cX2_sinkFromTop 55 = .ok (.lload_n 1, 1) := by decide +kernel
theorem dX2_sinkFromTop_56 : decode cX2_sinkFromTop 56 = .ok (.lcmp, 1) := by decide +kernel
theorem dX2_sinkFromTop_57 : decode cX2_sinkFromTop 57 = .ok (.ifCond .lt 6, 3) := by decide +kernel
theorem dX2_sinkFromTop_60 : decode cX2_sinkFromTop 60 = .ok (.goto 29, 3) := by decide +kernel
theorem dX2_sinkFromTop_63 : decode cX2_sinkFromTop 63 = .ok (.aload_n 0, 1) := by decide +kernel
theorem dX2_sinkFromTop_64 : decode cX2_sinkFromTop 64 = .ok (.getfield 9, 3) := by decide +kernel
theorem dX2_sinkFromTop_67 : decode cX2_sinkFromTop 67 = .ok (.iload_n 3, 1) := by decide +kernel
theorem dX2_sinkFromTop_68 : decode cX2_sinkFromTop 68 = .ok (.aload_n 0, 1) := by decide +kernel
theorem dX2_sinkFromTop_69 : decode cX2_sinkFromTop 69 = .ok (.getfield 9, 3) := by decide +kernel
theorem dX2_sinkFromTop_72 : decode cX2_sinkFromTop 72 = .ok (.iload 4, 2) := by decide +kernel
theorem dX2_sinkFromTop_74 : decode cX2_sinkFromTop 74 = .ok (.laload, 1) := by decide +kernel
theorem dX2_sinkFromTop_75 : decode cX2_sinkFromTop 75 = .ok (.lastore, 1) := by decide +kernel
theorem dX2_sinkFromTop_76 : decode cX2_sinkFromTop 76 = .ok (.iload 4, 2) := by decide +kernel
theorem dX2_sinkFromTop_78 : decode cX2_sinkFromTop 78 = .ok (.istore_n 3, 1) := by decide +kernel
theorem dX2_sinkFromTop_79 : decode cX2_sinkFromTop 79 = .ok (.iconst 2, 1) := by decide +kernel
theorem dX2_sinkFromTop_80 : decode cX2_sinkFromTop 80 = .ok (.iload_n 3, 1) := by decide +kernel
theorem dX2_sinkFromTop_81 : decode cX2_sinkFromTop 81 = .ok (.imul, 1) := by decide +kernel
theorem dX2_sinkFromTop_82 : decode cX2_sinkFromTop 82 = .ok (.iconst 1, 1) := by decide +kernel
theorem dX2_sinkFromTop_83 : decode cX2_sinkFromTop 83 = .ok (.iadd, 1) := by decide +kernel
theorem dX2_sinkFromTop_84 : decode cX2_sinkFromTop 84 = .ok (.istore 4, 2) := by decide +kernel
theorem dX2_sinkFromTop_86 : decode cX2_sinkFromTop 86 = .ok (.goto (-81), 3) := by decide +kernel
theorem dX2_sinkFromTop_89 : decode cX2_sinkFromTop 89 = .ok (.aload_n 0, 1) := by decide +kernel
theorem dX2_sinkFromTop_90 : decode cX2_sinkFromTop 90 = .ok (.getfield 9, 3) := by decide +kernel
theorem dX2_sinkFromTop_93 : decode cX2_sinkFromTop 93 = .ok (.iload_n 3, 1) := by decide +kernel
theorem dX2_sinkFromTop_94 : decode cX2_sinkFromTop 94 = .ok (.lload_n 1, 1) := by decide +kernel
theorem dX2_sinkFromTop_95 : decode cX2_sinkFromTop 95 = .ok (.lastore, 1) := by decide +kernel
theorem dX2_sinkFromTop_96 : decode cX2_sinkFromTop 96 = .ok (.return_, 1) := by decide +kernel
theorem dX3_init_0 : decode cX3_init 0 = .ok (.aload_n 0, 1) := by decide +kernel
theorem dX3_init_1 : decode cX3_init 1 = .ok (.invokespecial 5, 3) := by decide +kernel
theorem dX3_init_4 : decode cX3_init 4 = .ok (.aload_n 0, 1) := by decide +kernel
theorem dX3_init_5 : decode cX3_init 5 = .ok (.new 11, 3) := by decide +kernel
theorem dX3_init_8 : decode cX3_init 8 = .ok (.dup, 1) := by decide +kernel
theorem dX3_init_9 : decode cX3_init 9 = .ok (.invokespecial 13, 3) := by decide +kernel
theorem dX3_init_12 : decode cX3_init 12 = .ok (.putfield 14, 3) := by decide +kernel
theorem dX3_init_15 : decode cX3_init 15 = .ok (.aload_n 0, 1) := by decide +kernel
theorem dX3_init_16 : decode cX3_init 16 = .ok (.aload_n 1, 1) := by decide +kernel
theorem dX3_init_17 : decode cX3_init 17 = .ok (.putfield 18, 3) := by decide +kernel
theorem dX3_init_20 : decode cX3_init 20 = .ok (.aload_n 0, 1) := by decide +kernel
theorem dX3_init_21 : decode cX3_init 21 = .ok (.aload_n 2, 1) := by decide +kernel
theorem dX3_init_22 : decode cX3_init 22 = .ok (.putfield 22, 3) := by decide +kernel
theorem dX3_init_25 : decode cX3_init 25 = .ok (.return_, 1) := by decide +kernel
theorem dX3_find_0 : decode cX3_find 0 = .ok (.aload_n 0, 1) := by decide +kernel
theorem dX3_find_1 : decode cX3_find 1 = .ok (.getfield 18, 3) := by decide +kernel
theorem dX3_find_4 : decode cX3_find 4 = .ok (.iload_n 1, 1) := by decide +kernel
theorem dX3_find_5 : decode cX3_find 5 = .ok (.invokevirtual 25, 3) := by decide +kernel
theorem dX3_find_8 : decode cX3_find 8 = .ok (.istore_n 2, 1) := by decide +kernel
theorem dX3_find_9 : decode cX3_find 9 = .ok (.aload_n 0, 1) := by decide +kernel
theorem dX3_find_10 : decode cX3_find 10 = .ok (.getfield 14, 3) := by decide +kernel
theorem dX3_find_13 : decode cX3_find 13 = .ok (.invokevirtual 31, 3) := by decide +kernel
theorem dX3_find_16 : decode cX3_find 16 = .ok (.aload_n 0, 1) := by decide +kernel
theorem dX3_find_17 : decode cX3_find 17 = .ok (.getfield 14, 3) := by decide +kernel
theorem dX3_find_20 : decode cX3_find 20 = .ok (.iload_n 2, 1) := by decide +kernel
theorem dX3_find_21 : decode cX3_find 21 = .ok (.invokestatic 34, 3) := by decide +kernel
theorem dX3_find_24 : decode cX3_find 24 = .ok (.invokevirtual 38, 3) := by decide +kernel
theorem dX3_find_27 : decode cX3_find 27 = .ok (.iconst 0, 1) := by decide +kernel
theorem dX3_find_28 : decode cX3_find 28 = .ok (.istore_n 3, 1) := by decide +kernel
theorem dX3_find_29 : decode cX3_find 29 = .ok (.iload_n 3, 1) := by decide +kernel
theorem dX3_find_30 : decode cX3_find 30 = .ok (.sipush 1024, 3) := by decide +kernel
theorem dX3_find_33 : decode cX3_find 33 = .ok (.if_icmp .ge 65, 3) := by decide +kernel
theorem dX3_find_36 : decode cX3_find 36 = .ok (.aload_n 0, 1) := by decide +kernel
theorem dX3_find_37 : decode cX3_find 37 = .ok (.getfield 14, 3) := by decide +kernel
theorem dX3_find_40 : decode cX3_find 40 = .ok (.invokevirtual 42, 3) := by decide +kernel
theorem dX3_find_43 : decode cX3_find 43 = .ok (.ifCond .ne 55, 3) := by decide +kernel
theorem dX3_find_46 : decode cX3_find 46 = .ok (.aload_n 0, 1) := by decide +kernel
theorem dX3_find_47 : decode cX3_find 47 = .ok (.getfield 14, 3) := by decide +kernel
theorem dX3_find_50 : decode cX3_find 50 = .ok (.invokevirtual 46, 3) := by decide +kernel
theorem dX3_find_53 : decode cX3_find 53 = .ok (.lstore 4, 2) := by decide +kernel
theorem dX3_find_55 : decode cX3_find 55 = .ok (.lload 4, 2) := by decide +kernel
theorem dX3_find_57 : decode cX3_find 57 = .ok (.invokestatic 50, 3) := by decide +kernel
theorem dX3_find_60 : decode cX3_find 60 = .ok (.lload 4, 2) := by decide +kernel
theorem dX3_find_62 : decode cX3_find 62 = .ok (.invokestatic 54, 3) := by decide +kernel
theorem dX3_find_65 : decode cX3_find 65 = .ok (.if_icmp .ne 11, 3) := by decide +kernel
theorem dX3_find_68 : decode cX3_find 68 = .ok (.aload_n 0, 1) := by decide +kernel
theorem dX3_find_69 : decode cX3_find 69 = .ok (.lload 4, 2) := by decide +kernel
theorem dX3_find_71 : decode cX3_find 71 = .ok (.putfield 57, 3) := by decide +kernel
theorem dX3_find_74 : decode cX3_find 74 = .ok (.iconst 1, 1) := by decide +kernel
theorem dX3_find_75 : decode cX3_find 75 = .ok (.ireturn, 1) := by decide +kernel
theorem dX3_find_76 : decode cX3_find 76 = .ok (.aload_n 0, 1) := by decide +kernel
theorem dX3_find_77 : decode cX3_find 77 = .ok (.lload 4, 2) := by decide +kernel
theorem dX3_find_79 : decode cX3_find 79 = .ok (.invokevirtual 61, 3) := by decide +kernel
theorem dX3_find_82 : decode cX3_find 82 = .ok (.aload_n 0, 1) := by decide +kernel
theorem dX3_find_83 : decode cX3_find 83 = .ok (.lload 4, 2) := by decide +kernel
theorem dX3_find_85 : decode cX3_find 85 = .ok (.iload_n 1, 1) := by decide +kernel
theorem dX3_find_86 : decode cX3_find 86 = .ok (.iload_n 2, 1) := by decide +kernel
theorem dX3_find_87 : decode cX3_find 87 = .ok (.iconst 1, 1) := by decide +kernel
theorem dX3_find_88 : decode cX3_find 88 = .ok (.iadd, 1) := by decide +kernel
theorem dX3_find_89 : decode cX3_find 89 = .ok (.invokevirtual 64, 3) := by decide +kernel
theorem dX3_find_92 : decode cX3_find 92 = .ok (.iinc 3 1, 3) := by decide +kernel
theorem dX3_find_95 : decode cX3_find 95 = .ok (.goto (-66), 3) := by decide +kernel
theorem dX3_find_98 : decode cX3_find 98 = .ok (.iconst 0, 1) := by decide +kernel
theorem dX3_find_99 : decode cX3_find 99 = .ok (.ireturn, 1) := by decide +kernel
theorem dX3_length_0 : decode cX3_length 0 = .ok (.aload_n 0, 1) := by decide +kernel
theorem dX3_length_1 : decode cX3_length 1 = .ok (.getfield 57, 3) := by decide +kernel
theorem dX3_length_4 : decode cX3_length 4 = .ok (.invokestatic 54, 3) := by decide +kernel
theorem dX3_length_7 : decode cX3_length 7 = .ok (.ireturn, 1) := by decide +kernel
theorem dX3_boxMoved_0 : decode cX3_boxMoved 0 = .ok (.aload_n 0, 1) := by decide +kernel
theorem dX3_boxMoved_1 : decode cX3_boxMoved 1 = .ok (.getfield 57, 3) := by decide +kernel
theorem dX3_boxMoved_4 : decode cX3_boxMoved 4 = .ok (.iload_n 1, 1) := by decide +kernel
theorem dX3_boxMoved_5 : decode cX3_boxMoved 5 = .ok (.invokestatic 68, 3) := by decide +kernel
theorem dX3_boxMoved_8 : decode cX3_boxMoved 8 = .ok (.iconst 2, 1) := by decide +kernel
theorem dX3_boxMoved_9 : decode cX3_boxMoved 9 = .ok (.ishr, 1) := by decide +kernel
theorem dX3_boxMoved_10 : decode cX3_boxMoved 10 = .ok (.ireturn, 1) := by decide +kernel
theorem dX3_stackReached_0 : decode cX3_stackReached 0 = .ok (.aload_n 0, 1) := by decide +kernel
theorem dX3_stackReached_1 : decode cX3_stackReached 1 = .ok (.getfield 57, 3) := by decide +kernel
theorem dX3_stackReached_4 : decode cX3_stackReached 4 = .ok (.iload_n 1, 1) := by decide +kernel
theorem dX3_stackReached_5 : decode cX3_stackReached 5 = .ok (.invokestatic 68, 3) := by decide +kernel
theorem dX3_stackReached_8 : decode cX3_stackReached 8 = .ok (.iconst 3, 1) := by decide +kernel
theorem dX3_stackReached_9 : decode cX3_stackReached 9 = .ok (.iand, 1) := by decide +kernel
theorem dX3_stackReached_10 : decode cX3_stackReached 10 = .ok (.ireturn, 1) := by decide +kernel
theorem dX3_lengthByTrying_0 : decode cX3_lengthByTrying 0 = .ok (.aload_n 0, 1) := by decide +kernel
theorem dX3_lengthByTrying_1 : decode cX3_lengthByTrying 1 = .ok (.getfield 22, 3) := by decide +kernel
theorem dX3_lengthByTrying_4 : decode cX3_lengthByTrying 4 = .ok (.aload_n 0, 1) := by decide +kernel
theorem dX3_lengthByTrying_5 : decode cX3_lengthByTrying 5 = .ok (.getfield 18, 3) := by decide +kernel
theorem dX3_lengthByTrying_8 : decode cX3_lengthByTrying 8 = .ok (.invokevirtual 72, 3) := by decide +kernel
theorem dX3_lengthByTrying_11 : decode cX3_lengthByTrying 11 = .ok (.aload_n 0, 1) := by decide +kernel
theorem dX3_lengthByTrying_12 : decode cX3_lengthByTrying 12 = .ok (.getfield 22, 3) := by decide +kernel
theorem dX3_lengthByTrying_15 : decode cX3_lengthByTrying 15 = .ok (.iload_n 1, 1) := by decide +kernel
theorem dX3_lengthByTrying_16 : decode cX3_lengthByTrying 16 = .ok (.aload_n 0, 1) := by decide +kernel
theorem dX3_lengthByTrying_17 : decode cX3_lengthByTrying 17 = .ok (.getfield 22, 3) := by decide +kernel
theorem dX3_lengthByTrying_20 : decode cX3_lengthByTrying 20 = .ok (.iload_n 1, 1) := by decide +kernel
theorem dX3_lengthByTrying_21 : decode cX3_lengthByTrying 21 = .ok (.invokevirtual 25, 3) := by decide +kernel
theorem dX3_lengthByTrying_24 : decode cX3_lengthByTrying 24 = .ok (.iconst 1, 1) := by decide +kernel
theorem dX3_lengthByTrying_25 : decode cX3_lengthByTrying 25 = .ok (.iadd, 1) := by decide +kernel
theorem dX3_lengthByTrying_26 : decode cX3_lengthByTrying 26 = .ok (.invokestatic 76, 3) := by decide +kernel
theorem dX3_lengthByTrying_29 : decode cX3_lengthByTrying 29 = .ok (.ireturn, 1) := by decide +kernel
theorem dX3_fewestMoves_0 : decode cX3_fewestMoves 0 = .ok (.aload_n 0, 1) := by decide +kernel
theorem dX3_fewestMoves_1 : decode cX3_fewestMoves 1 = .ok (.iload_n 1, 1) := by decide +kernel
theorem dX3_fewestMoves_2 : decode cX3_fewestMoves 2 = .ok (.invokevirtual 25, 3) := by decide +kernel
theorem dX3_fewestMoves_5 : decode cX3_fewestMoves 5 = .ok (.istore_n 3, 1) := by decide +kernel
theorem dX3_fewestMoves_6 : decode cX3_fewestMoves 6 = .ok (.iload_n 3, 1) := by decide +kernel
theorem dX3_fewestMoves_7 : decode cX3_fewestMoves 7 = .ok (.ifCond .ne 5, 3) := by decide +kernel
theorem dX3_fewestMoves_10 : decode cX3_fewestMoves 10 = .ok (.iconst 0, 1) := by decide +kernel
theorem dX3_fewestMoves_11 : decode cX3_fewestMoves 11 = .ok (.ireturn, 1) := by decide +kernel
theorem dX3_fewestMoves_12 : decode cX3_fewestMoves 12 = .ok (.iload_n 3, 1) := by decide +kernel
theorem dX3_fewestMoves_13 : decode cX3_fewestMoves 13 = .ok (.iload_n 2, 1) := by decide +kernel
theorem dX3_fewestMoves_14 : decode cX3_fewestMoves 14 = .ok (.if_icmp .le 5, 3) := by decide +kernel
theorem dX3_fewestMoves_17 : decode cX3_fewestMoves 17 = .ok (.iconst (-1), 1) := by decide +kernel
theorem dX3_fewestMoves_18 : decode cX3_fewestMoves 18 = .ok (.ireturn, 1) := by decide +kernel
theorem dX3_fewestMoves_19 : decode cX3_fewestMoves 19 = .ok (.iconst (-1), 1) := by decide +kernel
theorem dX3_fewestMoves_20 : decode cX3_fewestMoves 20 = .ok (.istore 4, 2) := by decide +kernel
theorem dX3_fewestMoves_22 : decode cX3_fewestMoves 22 = .ok (.iconst 0, 1) := by decide +kernel
theorem dX3_fewestMoves_23 : decode cX3_fewestMoves 23 = .ok (.istore 5, 2) := by decide +kernel
theorem dX3_fewestMoves_25 : decode cX3_fewestMoves 25 = .ok (.iload 5, 2) := by decide +kernel
theorem dX3_fewestMoves_27 : decode cX3_fewestMoves 27 = .ok (.aload_n 0, 1) := by decide +kernel
theorem dX3_fewestMoves_28 : decode cX3_fewestMoves 28 = .ok (.invokevirtual 80, 3) := by decide +kernel
theorem dX3_fewestMoves_31 : decode cX3_fewestMoves 31 = .ok (.if_icmp .ge 104, 3) := by decide +kernel
theorem dX3_fewestMoves_34 : decode cX3_fewestMoves 34 = .ok (.aload_n 0, 1) := by decide +kernel
theorem dX3_fewestMoves_35 : decode cX3_fewestMoves 35 = .ok (.iload 5, 2) := by decide +kernel
theorem dX3_fewestMoves_37 : decode cX3_fewestMoves 37 = .ok (.invokevirtual 84, 3) := by decide +kernel
theorem dX3_fewestMoves_40 : decode cX3_fewestMoves 40 = .ok (.istore 6, 2) := by decide +kernel
theorem dX3_fewestMoves_42 : decode cX3_fewestMoves 42 = .ok (.iconst 0, 1) := by decide +kernel
theorem dX3_fewestMoves_43 : decode cX3_fewestMoves 43 = .ok (.istore 7, 2) := by decide +kernel
theorem dX3_fewestMoves_45 : decode cX3_fewestMoves 45 = .ok (.iload 7, 2) := by decide +kernel
theorem dX3_fewestMoves_47 : decode cX3_fewestMoves 47 = .ok (.aload_n 0, 1) := by decide +kernel
theorem dX3_fewestMoves_48 : decode cX3_fewestMoves 48 = .ok (.invokevirtual 80, 3) := by decide +kernel
theorem dX3_fewestMoves_51 : decode cX3_fewestMoves 51 = .ok (.if_icmp .ge 78, 3) := by decide +kernel
theorem dX3_fewestMoves_54 : decode cX3_fewestMoves 54 = .ok (.aload_n 0, 1) := by decide +kernel
theorem dX3_fewestMoves_55 : decode cX3_fewestMoves 55 = .ok (.iload 6, 2) := by decide +kernel
theorem dX3_fewestMoves_57 : decode cX3_fewestMoves 57 = .ok (.iload 7, 2) := by decide +kernel
theorem dX3_fewestMoves_59 : decode cX3_fewestMoves 59 = .ok (.invokevirtual 87, 3) := by decide +kernel
theorem dX3_fewestMoves_62 : decode cX3_fewestMoves 62 = .ok (.bipush 45, 2) := by decide +kernel
theorem dX3_fewestMoves_64 : decode cX3_fewestMoves 64 = .ok (.if_icmp .eq 6, 3) := by decide +kernel
theorem dX3_fewestMoves_67 : decode cX3_fewestMoves 67 = .ok (.goto 56, 3) := by decide +kernel
theorem dX3_fewestMoves_70 : decode cX3_fewestMoves 70 = .ok (.aload_n 0, 1) := by decide +kernel
theorem dX3_fewestMoves_71 : decode cX3_fewestMoves 71 = .ok (.iload 5, 2) := by decide +kernel
theorem dX3_fewestMoves_73 : decode cX3_fewestMoves 73 = .ok (.iload 7, 2) := by decide +kernel
theorem dX3_fewestMoves_75 : decode cX3_fewestMoves 75 = .ok (.invokevirtual 91, 3) := by decide +kernel
theorem dX3_fewestMoves_78 : decode cX3_fewestMoves 78 = .ok (.aload_n 0, 1) := by decide +kernel
theorem dX3_fewestMoves_79 : decode cX3_fewestMoves 79 = .ok (.iload_n 1, 1) := by decide +kernel
theorem dX3_fewestMoves_80 : decode cX3_fewestMoves 80 = .ok (.iload_n 2, 1) := by decide +kernel
theorem dX3_fewestMoves_81 : decode cX3_fewestMoves 81 = .ok (.iconst 1, 1) := by decide +kernel
theorem dX3_fewestMoves_82 : decode cX3_fewestMoves 82 = .ok (.isub, 1) := by decide +kernel
theorem dX3_fewestMoves_83 : decode cX3_fewestMoves 83 = .ok (.invokestatic 76, 3) := by decide +kernel
theorem dX3_fewestMoves_86 : decode cX3_fewestMoves 86 = .ok (.istore 8, 2) := by decide +kernel
theorem dX3_fewestMoves_88 : decode cX3_fewestMoves 88 = .ok (.aload_n 0, 1) := by decide +kernel
theorem dX3_fewestMoves_89 : decode cX3_fewestMoves 89 = .ok (.iload 7, 2) := by decide +kernel
theorem dX3_fewestMoves_91 : decode cX3_fewestMoves 91 = .ok (.iload 5, 2) := by decide +kernel
theorem dX3_fewestMoves_93 : decode cX3_fewestMoves 93 = .ok (.invokevirtual 91, 3) := by decide +kernel
theorem dX3_fewestMoves_96 : decode cX3_fewestMoves 96 = .ok (.iload 8, 2) := by decide +kernel
theorem dX3_fewestMoves_98 : decode cX3_fewestMoves 98 = .ok (.iconst (-1), 1) := by decide +kernel
theorem dX3_fewestMoves_99 : decode cX3_fewestMoves 99 = .ok (.if_icmp .eq 24, 3) := by decide +kernel
theorem dX3_fewestMoves_102 : decode cX3_fewestMoves 102 = .ok (.iload 4, 2) := by decide +kernel
theorem dX3_fewestMoves_104 : decode cX3_fewestMoves 104 = .ok (.iconst (-1), 1) := by decide +kernel
theorem dX3_fewestMoves_105 : decode cX3_fewestMoves 105 = .ok (.if_icmp .eq 12, 3) := by decide +kernel
theorem dX3_fewestMoves_108 : decode cX3_fewestMoves 108 = .ok (.iload 8, 2) := by decide +kernel
theorem dX3_fewestMoves_110 : decode cX3_fewestMoves 110 = .ok (.iconst 1, 1) := by decide +kernel
theorem dX3_fewestMoves_111 : decode cX3_fewestMoves 111 = .ok (.iadd, 1) := by decide +kernel
theorem dX3_fewestMoves_112 : decode cX3_fewestMoves 112 = .ok (.iload 4, 2) := by decide +kernel
theorem dX3_fewestMoves_114 : decode cX3_fewestMoves 114 = .ok (.if_icmp .ge 9, 3) := by decide +kernel
theorem dX3_fewestMoves_117 : decode cX3_fewestMoves 117 = .ok (.iload 8, 2) := by decide +kernel
theorem dX3_fewestMoves_119 : decode cX3_fewestMoves 119 = .ok (.iconst 1, 1) := by decide +kernel
theorem dX3_fewestMoves_120 : decode cX3_fewestMoves 120 = .ok (.iadd, 1) := by decide +kernel
theorem dX3_fewestMoves_121 : decode cX3_fewestMoves 121 = .ok (.istore 4, 2) := by decide +kernel
theorem dX3_fewestMoves_123 : decode cX3_fewestMoves 123 = .ok (.iinc 7 1, 3) := by decide +kernel
theorem dX3_fewestMoves_126 : decode cX3_fewestMoves 126 = .ok (.goto (-81), 3) := by decide +kernel
theorem dX3_fewestMoves_129 : decode cX3_fewestMoves 129 = .ok (.iinc 5 1, 3) := by decide +kernel
theorem dX3_fewestMoves_132 : decode cX3_fewestMoves 132 = .ok (.goto (-107), 3) := by decide +kernel
theorem dX3_fewestMoves_135 : decode cX3_fewestMoves 135 = .ok (.iload 4, 2) := by decide +kernel
theorem dX3_fewestMoves_137 : decode cX3_fewestMoves 137 = .ok (.ireturn, 1) := by decide +kernel
theorem dX3_layOut_0 : decode cX3_layOut 0 = .ok (.aload_n 0, 1) := by decide +kernel
theorem dX3_layOut_1 : decode cX3_layOut 1 = .ok (.getfield 22, 3) := by decide +kernel
theorem dX3_layOut_4 : decode cX3_layOut 4 = .ok (.aload_n 0, 1) := by decide +kernel
theorem dX3_layOut_5 : decode cX3_layOut 5 = .ok (.getfield 18, 3) := by decide +kernel
theorem dX3_layOut_8 : decode cX3_layOut 8 = .ok (.invokevirtual 72, 3) := by decide +kernel
theorem dX3_layOut_11 : decode cX3_layOut 11 = .ok (.iconst 0, 1) := by decide +kernel
theorem dX3_layOut_12 : decode cX3_layOut 12 = .ok (.istore_n 3, 1) := by decide +kernel
theorem dX3_layOut_13 : decode cX3_layOut 13 = .ok (.iload_n 3, 1) := by decide +kernel
theorem dX3_layOut_14 : decode cX3_layOut 14 = .ok (.lload_n 1, 1) := by decide +kernel
theorem dX3_layOut_15 : decode cX3_layOut 15 = .ok (.invokestatic 54, 3) := by decide +kernel
theorem dX3_layOut_18 : decode cX3_layOut 18 = .ok (.if_icmp .ge 38, 3) := by decide +kernel
theorem dX3_layOut_21 : decode cX3_layOut 21 = .ok (.lload_n 1, 1) := by decide +kernel
theorem dX3_layOut_22 : decode cX3_layOut 22 = .ok (.iload_n 3, 1) := by decide +kernel
theorem dX3_layOut_23 : decode cX3_layOut 23 = .ok (.invokestatic 68, 3) := by decide +kernel
theorem dX3_layOut_26 : decode cX3_layOut 26 = .ok (.istore 4, 2) := by decide +kernel
theorem dX3_layOut_28 : decode cX3_layOut 28 = .ok (.aload_n 0, 1) := by decide +kernel
theorem dX3_layOut_29 : decode cX3_layOut 29 = .ok (.getfield 22, 3) := by decide +kernel
theorem dX3_layOut_32 : decode cX3_layOut 32 = .ok (.aload_n 0, 1) := by decide +kernel
theorem dX3_layOut_33 : decode cX3_layOut 33 = .ok (.getfield 22, 3) := by decide +kernel
theorem dX3_layOut_36 : decode cX3_layOut 36 = .ok (.iload 4, 2) := by decide +kernel
theorem dX3_layOut_38 : decode cX3_layOut 38 = .ok (.iconst 2, 1) := by decide +kernel
theorem dX3_layOut_39 : decode cX3_layOut 39 = .ok (.ishr, 1) := by decide +kernel
theorem dX3_layOut_40 : decode cX3_layOut 40 = .ok (.invokevirtual 95, 3) := by decide +kernel
theorem dX3_layOut_43 : decode cX3_layOut 43 = .ok (.iload 4, 2) := by decide +kernel
theorem dX3_layOut_45 : decode cX3_layOut 45 = .ok (.iconst 3, 1) := by decide +kernel
theorem dX3_layOut_46 : decode cX3_layOut 46 = .ok (.iand, 1) := by decide +kernel
theorem dX3_layOut_47 : decode cX3_layOut 47 = .ok (.invokevirtual 91, 3) := by decide +kernel
theorem dX3_layOut_50 : decode cX3_layOut 50 = .ok (.iinc 3 1, 3) := by decide +kernel
theorem dX3_layOut_53 : decode cX3_layOut 53 = .ok (.goto (-40), 3) := by decide +kernel
theorem dX3_layOut_56 : decode cX3_layOut 56 = .ok (.return_, 1) := by decide +kernel
theorem dX3_addNextMoves_0 : decode cX3_addNextMoves 0 = .ok (.aload_n 0, 1) := by decide +kernel
theorem dX3_addNextMoves_1 : decode cX3_addNextMoves 1 = .ok (.getfield 22, 3) := by decide +kernel
theorem dX3_addNextMoves_4 : decode cX3_addNextMoves 4 = .ok (.iload_n 3, 1) := by decide +kernel
theorem dX3_addNextMoves_5 : decode cX3_addNextMoves 5 = .ok (.invokevirtual 95, 3) := by decide +kernel
theorem dX3_addNextMoves_8 : decode cX3_addNextMoves 8 = .ok (.istore 5, 2) := by decide +kernel
theorem dX3_addNextMoves_10 : decode cX3_addNextMoves 10 = .ok (.iconst 0, 1) := by decide +kernel
theorem dX3_addNextMoves_11 : decode cX3_addNextMoves 11 = .ok (.istore 6, 2) := by decide +kernel
theorem dX3_addNextMoves_13 : decode cX3_addNextMoves 13 = .ok (.iload 6, 2) := by decide +kernel
theorem dX3_addNextMoves_15 : decode cX3_addNextMoves 15 = .ok (.aload_n 0, 1) := by decide +kernel
theorem dX3_addNextMoves_16 : decode cX3_addNextMoves 16 = .ok (.getfield 22, 3) := by decide +kernel
theorem dX3_addNextMoves_19 : decode cX3_addNextMoves 19 = .ok (.invokevirtual 80, 3) := by decide +kernel
theorem dX3_addNextMoves_22 : decode cX3_addNextMoves 22 = .ok (.if_icmp .ge 97, 3) := by decide +kernel
theorem dX3_addNextMoves_25 : decode cX3_addNextMoves 25 = .ok (.aload_n 0, 1) := by decide +kernel
theorem dX3_addNextMoves_26 : decode cX3_addNextMoves 26 = .ok (.getfield 22, 3) := by decide +kernel
theorem dX3_addNextMoves_29 : decode cX3_addNextMoves 29 = .ok (.iload 6, 2) := by decide +kernel
theorem dX3_addNextMoves_31 : decode cX3_addNextMoves 31 = .ok (.invokevirtual 84, 3) := by decide +kernel
theorem dX3_addNextMoves_34 : decode cX3_addNextMoves 34 = .ok (.istore 7, 2) := by decide +kernel
theorem dX3_addNextMoves_36 : decode cX3_addNextMoves 36 = .ok (.iconst 0, 1) := by decide +kernel
theorem dX3_addNextMoves_37 : decode cX3_addNextMoves 37 = .ok (.istore 8, 2) := by decide +kernel
theorem dX3_addNextMoves_39 : decode cX3_addNextMoves 39 = .ok (.iload 8, 2) := by decide +kernel
theorem dX3_addNextMoves_41 : decode cX3_addNextMoves 41 = .ok (.aload_n 0, 1) := by decide +kernel
theorem dX3_addNextMoves_42 : decode cX3_addNextMoves 42 = .ok (.getfield 22, 3) := by decide +kernel
theorem dX3_addNextMoves_45 : decode cX3_addNextMoves 45 = .ok (.invokevirtual 80, 3) := by decide +kernel
theorem dX3_addNextMoves_48 : decode cX3_addNextMoves 48 = .ok (.if_icmp .ge 65, 3) := by decide +kernel
theorem dX3_addNextMoves_51 : decode cX3_addNextMoves 51 = .ok (.lload_n 1, 1) := by decide +kernel
theorem dX3_addNextMoves_52 : decode cX3_addNextMoves 52 = .ok (.invokestatic 50, 3) := by decide +kernel
theorem dX3_addNextMoves_55 : decode cX3_addNextMoves 55 = .ok (.iload 6, 2) := by decide +kernel
theorem dX3_addNextMoves_57 : decode cX3_addNextMoves 57 = .ok (.iload 8, 2) := by decide +kernel
theorem dX3_addNextMoves_59 : decode cX3_addNextMoves 59 = .ok (.iload 5, 2) := by decide +kernel
theorem dX3_addNextMoves_61 : decode cX3_addNextMoves 61 = .ok (.invokestatic 98, 3) := by decide +kernel
theorem dX3_addNextMoves_64 : decode cX3_addNextMoves 64 = .ok (.iadd, 1) := by decide +kernel
theorem dX3_addNextMoves_65 : decode cX3_addNextMoves 65 = .ok (.istore 9, 2) := by decide +kernel
theorem dX3_addNextMoves_67 : decode cX3_addNextMoves 67 = .ok (.iload 9, 2) := by decide +kernel
theorem dX3_addNextMoves_69 : decode cX3_addNextMoves 69 = .ok (.iload 4, 2) := by decide +kernel
theorem dX3_addNextMoves_71 : decode cX3_addNextMoves 71 = .ok (.if_icmp .gt 36, 3) := by decide +kernel
theorem dX3_addNextMoves_74 : decode cX3_addNextMoves 74 = .ok (.aload_n 0, 1) := by decide +kernel
theorem dX3_addNextMoves_75 : decode cX3_addNextMoves 75 = .ok (.getfield 22, 3) := by decide +kernel
theorem dX3_addNextMoves_78 : decode cX3_addNextMoves 78 = .ok (.iload 7, 2) := by decide +kernel
theorem dX3_addNextMoves_80 : decode cX3_addNextMoves 80 = .ok (.iload 8, 2) := by decide +kernel
theorem dX3_addNextMoves_82 : decode cX3_addNextMoves 82 = .ok (.invokevirtual 87, 3) := by decide +kernel
theorem dX3_addNextMoves_85 : decode cX3_addNextMoves 85 = .ok (.bipush 45, 2) := by decide +kernel
theorem dX3_addNextMoves_87 : decode cX3_addNextMoves 87 = .ok (.if_icmp .ne 20, 3) := by decide +kernel
theorem dX3_addNextMoves_90 : decode cX3_addNextMoves 90 = .ok (.aload_n 0, 1) := by decide +kernel
theorem dX3_addNextMoves_91 : decode cX3_addNextMoves 91 = .ok (.getfield 14, 3) := by decide +kernel
theorem dX3_addNextMoves_94 : decode cX3_addNextMoves 94 = .ok (.lload_n 1, 1) := by decide +kernel
theorem dX3_addNextMoves_95 : decode cX3_addNextMoves 95 = .ok (.iload 9, 2) := by decide +kernel
theorem dX3_addNextMoves_97 : decode cX3_addNextMoves 97 = .ok (.iload 7, 2) := by decide +kernel
theorem dX3_addNextMoves_99 : decode cX3_addNextMoves 99 = .ok (.iload 8, 2) := by decide +kernel
theorem dX3_addNextMoves_101 : decode cX3_addNextMoves 101 = .ok (.invokestatic 102, 3) := by decide +kernel
theorem dX3_addNextMoves_104 : decode cX3_addNextMoves 104 = .ok (.invokevirtual 38, 3) := by decide +kernel
theorem dX3_addNextMoves_107 : decode cX3_addNextMoves 107 = .ok (.iinc 8 1, 3) := by decide +kernel
theorem dX3_addNextMoves_110 : decode cX3_addNextMoves 110 = .ok (.goto (-71), 3) := by decide +kernel
theorem dX3_addNextMoves_113 : decode cX3_addNextMoves 113 = .ok (.iinc 6 1, 3) := by decide +kernel
theorem dX3_addNextMoves_116 : decode cX3_addNextMoves 116 = .ok (.goto (-103), 3) := by decide +kernel
theorem dX3_addNextMoves_119 : decode cX3_addNextMoves 119 = .ok (.return_, 1) := by decide +kernel
theorem dX3_extraNeed_0 : decode cX3_extraNeed 0 = .ok (.iload_n 0, 1) := by decide +kernel
theorem dX3_extraNeed_1 : decode cX3_extraNeed 1 = .ok (.iload_n 2, 1) := by decide +kernel
theorem dX3_extraNeed_2 : decode cX3_extraNeed 2 = .ok (.if_icmp .ne 5, 3) := by decide +kernel
theorem dX3_extraNeed_5 : decode cX3_extraNeed 5 = .ok (.iconst 0, 1) := by decide +kernel
theorem dX3_extraNeed_6 : decode cX3_extraNeed 6 = .ok (.ireturn, 1) := by decide +kernel
theorem dX3_extraNeed_7 : decode cX3_extraNeed 7 = .ok (.iload_n 1, 1) := by decide +kernel
theorem dX3_extraNeed_8 : decode cX3_extraNeed 8 = .ok (.iload_n 2, 1) := by decide +kernel
theorem dX3_extraNeed_9 : decode cX3_extraNeed 9 = .ok (.if_icmp .ne 7, 3) := by decide +kernel
theorem dX3_extraNeed_12 : decode cX3_extraNeed 12 = .ok (.iconst 2, 1) := by decide +kernel
theorem dX3_extraNeed_13 : decode cX3_extraNeed 13 = .ok (.goto 4, 3) := by decide +kernel
theorem dX3_extraNeed_16 : decode cX3_extraNeed 16 = .ok (.iconst 1, 1) := by decide +kernel
theorem dX3_extraNeed_17 : decode cX3_extraNeed 17 = .ok (.ireturn, 1) := by decide +kernel
theorem dX3_begunWith_0 : decode cX3_begunWith 0 = .ok (.iload_n 0, 1) := by decide +kernel
theorem dX3_begunWith_1 : decode cX3_begunWith 1 = .ok (.i2l, 1) := by decide +kernel
theorem dX3_begunWith_2 : decode cX3_begunWith 2 = .ok (.bipush 31, 2) := by decide +kernel
theorem dX3_begunWith_4 : decode cX3_begunWith 4 = .ok (.lshl, 1) := by decide +kernel
theorem dX3_begunWith_5 : decode cX3_begunWith 5 = .ok (.lreturn, 1) := by decide +kernel
theorem dX3_goneOn_0 : decode cX3_goneOn 0 = .ok (.lload_n 0, 1) := by decide +kernel
theorem dX3_goneOn_1 : decode cX3_goneOn 1 = .ok (.invokestatic 54, 3) := by decide +kernel
theorem dX3_goneOn_4 : decode cX3_goneOn 4 = .ok (.istore 5, 2) := by decide +kernel
theorem dX3_goneOn_6 : decode cX3_goneOn 6 = .ok (.iload_n 3, 1) := by decide +kernel
theorem dX3_goneOn_7 : decode cX3_goneOn 7 = .ok (.i2l, 1) := by decide +kernel
theorem dX3_goneOn_8 : decode cX3_goneOn 8 = .ok (.iconst 2, 1) := by decide +kernel
theorem dX3_goneOn_9 : decode cX3_goneOn 9 = .ok (.lshl, 1) := by decide +kernel
theorem dX3_goneOn_10 : decode cX3_goneOn 10 = .ok (.iload 4, 2) := by decide +kernel
theorem dX3_goneOn_12 : decode cX3_goneOn 12 = .ok (.i2l, 1) := by decide +kernel
theorem dX3_goneOn_13 : decode cX3_goneOn 13 = .ok (.lor, 1) := by decide +kernel
theorem dX3_goneOn_14 : decode cX3_goneOn 14 = .ok (.lstore 6, 2) := by decide +kernel
theorem dX3_goneOn_16 : decode cX3_goneOn 16 = .ok (.lload_n 0, 1) := by decide +kernel
theorem dX3_goneOn_17 : decode cX3_goneOn 17 = .ok (.lload_n 0, 1) := by decide +kernel
theorem dX3_goneOn_18 : decode cX3_goneOn 18 = .ok (.invokestatic 50, 3) := by decide +kernel
theorem dX3_goneOn_21 : decode cX3_goneOn 21 = .ok (.invokestatic 34, 3) := by decide +kernel
theorem dX3_goneOn_24 : decode cX3_goneOn 24 = .ok (.lsub, 1) := by decide +kernel
theorem dX3_goneOn_25 : decode cX3_goneOn 25 = .ok (.iload 5, 2) := by decide +kernel
theorem dX3_goneOn_27 : decode cX3_goneOn 27 = .ok (.i2l, 1) := by decide +kernel
theorem dX3_goneOn_28 : decode cX3_goneOn 28 = .ok (.lsub, 1) := by decide +kernel
theorem dX3_goneOn_29 : decode cX3_goneOn 29 = .ok (.lstore 8, 2) := by decide +kernel
theorem dX3_goneOn_31 : decode cX3_goneOn 31 = .ok (.iload_n 2, 1) := by decide +kernel
theorem dX3_goneOn_32 : decode cX3_goneOn 32 = .ok (.invokestatic 34, 3) := by decide +kernel
theorem dX3_goneOn_35 : decode cX3_goneOn 35 = .ok (.lload 8, 2) := by decide +kernel
theorem dX3_goneOn_37 : decode cX3_goneOn 37 = .ok (.lor, 1) := by decide +kernel
theorem dX3_goneOn_38 : decode cX3_goneOn 38 = .ok (.lload 6, 2) := by decide +kernel
theorem dX3_goneOn_40 : decode cX3_goneOn 40 = .ok (.iload 5, 2) := by decide +kernel
theorem dX3_goneOn_42 : decode cX3_goneOn 42 = .ok (.invokestatic 106, 3) := by decide +kernel
theorem dX3_goneOn_45 : decode cX3_goneOn 45 = .ok (.lshl, 1) := by decide +kernel
theorem dX3_goneOn_46 : decode cX3_goneOn 46 = .ok (.lor, 1) := by decide +kernel
theorem dX3_goneOn_47 : decode cX3_goneOn 47 = .ok (.iload 5, 2) := by decide +kernel
theorem dX3_goneOn_49 : decode cX3_goneOn 49 = .ok (.iconst 1, 1) := by decide +kernel
theorem dX3_goneOn_50 : decode cX3_goneOn 50 = .ok (.iadd, 1) := by decide +kernel
theorem dX3_goneOn_51 : decode cX3_goneOn 51 = .ok (.i2l, 1) := by decide +kernel
theorem dX3_goneOn_52 : decode cX3_goneOn 52 = .ok (.lor, 1) := by decide +kernel
theorem dX3_goneOn_53 : decode cX3_goneOn 53 = .ok (.lreturn, 1) := by decide +kernel
theorem dX3_needOf_0 : decode cX3_needOf 0 = .ok (.lload_n 0, 1) := by decide +kernel
theorem dX3_needOf_1 : decode cX3_needOf 1 = .ok (.bipush 31, 2) := by decide +kernel
theorem dX3_needOf_3 : decode cX3_needOf 3 = .ok (.lshr, 1) := by decide +kernel
theorem dX3_needOf_4 : decode cX3_needOf 4 = .ok (.l2i, 1) := by decide +kernel
theorem dX3_needOf_5 : decode cX3_needOf 5 = .ok (.ireturn, 1) := by decide +kernel
theorem dX3_lengthOf_0 : decode cX3_lengthOf 0 = .ok (.lload_n 0, 1) := by decide +kernel
theorem dX3_lengthOf_1 : decode cX3_lengthOf 1 = .ok (.l2i, 1) := by decide +kernel
theorem dX3_lengthOf_2 : decode cX3_lengthOf 2 = .ok (.bipush 7, 2) := by decide +kernel
theorem dX3_lengthOf_4 : decode cX3_lengthOf 4 = .ok (.iand, 1) := by decide +kernel
theorem dX3_lengthOf_5 : decode cX3_lengthOf 5 = .ok (.ireturn, 1) := by decide +kernel
theorem dX3_moveOf_0 : decode cX3_moveOf 0 = .ok (.lload_n 0, 1) := by decide +kernel
theorem dX3_moveOf_1 : decode cX3_moveOf 1 = .ok (.iload_n 2, 1) := by decide +kernel
theorem dX3_moveOf_2 : decode cX3_moveOf 2 = .ok (.invokestatic 106, 3) := by decide +kernel
theorem dX3_moveOf_5 : decode cX3_moveOf 5 = .ok (.lshr, 1) := by decide +kernel
theorem dX3_moveOf_6 : decode cX3_moveOf 6 = .ok (.l2i, 1) := by decide +kernel
theorem dX3_moveOf_7 : decode cX3_moveOf 7 = .ok (.bipush 127, 2) := by decide +kernel
theorem dX3_moveOf_9 : decode cX3_moveOf 9 = .ok (.iand, 1) := by decide +kernel
theorem dX3_moveOf_10 : decode cX3_moveOf 10 = .ok (.ireturn, 1) := by decide +kernel
theorem dX3_shiftOf_0 : decode cX3_shiftOf 0 = .ok (.iconst 3, 1) := by decide +kernel
theorem dX3_shiftOf_1 : decode cX3_shiftOf 1 = .ok (.iconst 3, 1) := by decide +kernel
theorem dX3_shiftOf_2 : decode cX3_shiftOf 2 = .ok (.iload_n 0, 1) := by decide +kernel
theorem dX3_shiftOf_3 : decode cX3_shiftOf 3 = .ok (.isub, 1) := by decide +kernel
theorem dX3_shiftOf_4 : decode cX3_shiftOf 4 = .ok (.bipush 7, 2) := by decide +kernel
theorem dX3_shiftOf_6 : decode cX3_shiftOf 6 = .ok (.imul, 1) := by decide +kernel
theorem dX3_shiftOf_7 : decode cX3_shiftOf 7 = .ok (.iadd, 1) := by decide +kernel
theorem dX3_shiftOf_8 : decode cX3_shiftOf 8 = .ok (.ireturn, 1) := by decide +kernel
theorem dX4_init_0 : decode cX4_init 0 = .ok (.aload_n 0, 1) := by decide +kernel
theorem dX4_init_1 : decode cX4_init 1 = .ok (.invokespecial 3, 3) := by decide +kernel
theorem dX4_init_4 : decode cX4_init 4 = .ok (.aload_n 0, 1) := by decide +kernel
theorem dX4_init_5 : decode cX4_init 5 = .ok (.iconst 4, 1) := by decide +kernel
theorem dX4_init_6 : decode cX4_init 6 = .ok (.newarray .int, 2) := by decide +kernel
theorem dX4_init_8 : decode cX4_init 8 = .ok (.putfield 9, 3) := by decide +kernel
theorem dX4_init_11 : decode cX4_init 11 = .ok (.aload_n 0, 1) := by decide +kernel
theorem dX4_init_12 : decode cX4_init 12 = .ok (.iconst 4, 1) := by decide +kernel
theorem dX4_init_13 : decode cX4_init 13 = .ok (.newarray .int, 2) := by decide +kernel
theorem dX4_init_15 : decode cX4_init 15 = .ok (.putfield 15, 3) := by decide +kernel
theorem dX4_init_18 : decode cX4_init 18 = .ok (.aload_n 0, 1) := by decide +kernel
theorem dX4_init_19 : decode cX4_init 19 = .ok (.bipush 16, 2) := by decide +kernel
theorem dX4_init_21 : decode cX4_init 21 = .ok (.newarray .int, 2) := by decide +kernel
theorem dX4_init_23 : decode cX4_init 23 = .ok (.putfield 18, 3) := by decide +kernel
theorem dX4_init_26 : decode cX4_init 26 = .ok (.aload_n 0, 1) := by decide +kernel
theorem dX4_init_27 : decode cX4_init 27 = .ok (.bipush 20, 2) := by decide +kernel
theorem dX4_init_29 : decode cX4_init 29 = .ok (.newarray .int, 2) := by decide +kernel
theorem dX4_init_31 : decode cX4_init 31 = .ok (.putfield 21, 3) := by decide +kernel
theorem dX4_init_34 : decode cX4_init 34 = .ok (.aload_n 0, 1) := by decide +kernel
theorem dX4_init_35 : decode cX4_init 35 = .ok (.aload_n 1, 1) := by decide +kernel
theorem dX4_init_36 : decode cX4_init 36 = .ok (.putfield 24, 3) := by decide +kernel
theorem dX4_init_39 : decode cX4_init 39 = .ok (.iconst 0, 1) := by decide +kernel
theorem dX4_init_40 : decode cX4_init 40 = .ok (.istore_n 2, 1) := by decide +kernel
theorem dX4_init_41 : decode cX4_init 41 = .ok (.iload_n 2, 1) := by decide +kernel
theorem dX4_init_42 : decode cX4_init 42 = .ok (.bipush 20, 2) := by decide +kernel
theorem dX4_init_44 : decode cX4_init 44 = .ok (.if_icmp .ge 16, 3) := by decide +kernel
theorem dX4_init_47 : decode cX4_init 47 = .ok (.aload_n 0, 1) := by decide +kernel
theorem dX4_init_48 : decode cX4_init 48 = .ok (.getfield 21, 3) := by decide +kernel
theorem dX4_init_51 : decode cX4_init 51 = .ok (.iload_n 2, 1) := by decide +kernel
theorem dX4_init_52 : decode cX4_init 52 = .ok (.iconst (-1), 1) := by decide +kernel
theorem dX4_init_53 : decode cX4_init 53 = .ok (.iastore, 1) := by decide +kernel
theorem dX4_init_54 : decode cX4_init 54 = .ok (.iinc 2 1, 3) := by decide +kernel
theorem dX4_init_57 : decode cX4_init 57 = .ok (.goto (-16), 3) := by decide +kernel
theorem dX4_init_60 : decode cX4_init 60 = .ok (.return_, 1) := by decide +kernel
theorem dX4_copyFrom_0 : decode cX4_copyFrom 0 = .ok (.aload_n 1, 1) := by decide +kernel
theorem dX4_copyFrom_1 : decode cX4_copyFrom 1 = .ok (.getfield 9, 3) := by decide +kernel
theorem dX4_copyFrom_4 : decode cX4_copyFrom 4 = .ok (.iconst 0, 1) := by decide +kernel
theorem dX4_copyFrom_5 : decode cX4_copyFrom 5 = .ok (.aload_n 0, 1) := by decide +kernel
theorem dX4_copyFrom_6 : decode cX4_copyFrom 6 = .ok (.getfield 9, 3) := by decide +kernel
theorem dX4_copyFrom_9 : decode cX4_copyFrom 9 = .ok (.iconst 0, 1) := by decide +kernel
theorem dX4_copyFrom_10 : decode cX4_copyFrom 10 = .ok (.iconst 4, 1) := by decide +kernel
theorem dX4_copyFrom_11 : decode cX4_copyFrom 11 = .ok (.invokestatic 28, 3) := by decide +kernel
theorem dX4_copyFrom_14 : decode cX4_copyFrom 14 = .ok (.aload_n 1, 1) := by decide +kernel
theorem dX4_copyFrom_15 : decode cX4_copyFrom 15 = .ok (.getfield 15, 3) := by decide +kernel
theorem dX4_copyFrom_18 : decode cX4_copyFrom 18 = .ok (.iconst 0, 1) := by decide +kernel
theorem dX4_copyFrom_19 : decode cX4_copyFrom 19 = .ok (.aload_n 0, 1) := by decide +kernel
theorem dX4_copyFrom_20 : decode cX4_copyFrom 20 = .ok (.getfield 15, 3) := by decide +kernel
theorem dX4_copyFrom_23 : decode cX4_copyFrom 23 = .ok (.iconst 0, 1) := by decide +kernel
theorem dX4_copyFrom_24 : decode cX4_copyFrom 24 = .ok (.iconst 4, 1) := by decide +kernel
theorem dX4_copyFrom_25 : decode cX4_copyFrom 25 = .ok (.invokestatic 28, 3) := by decide +kernel
theorem dX4_copyFrom_28 : decode cX4_copyFrom 28 = .ok (.aload_n 1, 1) := by decide +kernel
theorem dX4_copyFrom_29 : decode cX4_copyFrom 29 = .ok (.getfield 18, 3) := by decide +kernel
theorem dX4_copyFrom_32 : decode cX4_copyFrom 32 = .ok (.iconst 0, 1) := by decide +kernel
theorem dX4_copyFrom_33 : decode cX4_copyFrom 33 = .ok (.aload_n 0, 1) := by decide +kernel
theorem dX4_copyFrom_34 : decode cX4_copyFrom 34 = .ok (.getfield 18, 3) := by decide +kernel
theorem dX4_copyFrom_37 : decode cX4_copyFrom 37 = .ok (.iconst 0, 1) := by decide +kernel
theorem dX4_copyFrom_38 : decode cX4_copyFrom 38 = .ok (.bipush 16, 2) := by decide +kernel
theorem dX4_copyFrom_40 : decode cX4_copyFrom 40 = .ok (.invokestatic 28, 3) := by decide +kernel
theorem dX4_copyFrom_43 : decode cX4_copyFrom 43 = .ok (.aload_n 1, 1) := by decide +kernel
theorem dX4_copyFrom_44 : decode cX4_copyFrom 44 = .ok (.getfield 21, 3) := by decide +kernel
theorem dX4_copyFrom_47 : decode cX4_copyFrom 47 = .ok (.iconst 0, 1) := by decide +kernel
theorem dX4_copyFrom_48 : decode cX4_copyFrom 48 = .ok (.aload_n 0, 1) := by decide +kernel
theorem dX4_copyFrom_49 : decode cX4_copyFrom 49 = .ok (.getfield 21, 3) := by decide +kernel
theorem dX4_copyFrom_52 : decode cX4_copyFrom 52 = .ok (.iconst 0, 1) := by decide +kernel
theorem dX4_copyFrom_53 : decode cX4_copyFrom 53 = .ok (.bipush 20, 2) := by decide +kernel
theorem dX4_copyFrom_55 : decode cX4_copyFrom 55 = .ok (.invokestatic 28, 3) := by decide +kernel
theorem dX4_copyFrom_58 : decode cX4_copyFrom 58 = .ok (.aload_n 0, 1) := by decide +kernel
theorem dX4_copyFrom_59 : decode cX4_copyFrom 59 = .ok (.aload_n 1, 1) := by decide +kernel
theorem dX4_copyFrom_60 : decode cX4_copyFrom 60 = .ok (.getfield 34, 3) := by decide +kernel
theorem dX4_copyFrom_63 : decode cX4_copyFrom 63 = .ok (.putfield 34, 3) := by decide +kernel
theorem dX4_copyFrom_66 : decode cX4_copyFrom 66 = .ok (.aload_n 0, 1) := by decide +kernel
theorem dX4_copyFrom_67 : decode cX4_copyFrom 67 = .ok (.aload_n 1, 1) := by decide +kernel
theorem dX4_copyFrom_68 : decode cX4_copyFrom 68 = .ok (.getfield 38, 3) := by decide +kernel
theorem dX4_copyFrom_71 : decode cX4_copyFrom 71 = .ok (.putfield 38, 3) := by decide +kernel
theorem dX4_copyFrom_74 : decode cX4_copyFrom 74 = .ok (.return_, 1) := by decide +kernel
theorem dX4_openStack_0 : decode cX4_openStack 0 = .ok (.aload_n 0, 1) := by decide +kernel
theorem dX4_openStack_1 : decode cX4_openStack 1 = .ok (.getfield 34, 3) := by decide +kernel
theorem dX4_openStack_4 : decode cX4_openStack 4 = .ok (.iconst 4, 1) := by decide +kernel
theorem dX4_openStack_5 : decode cX4_openStack 5 = .ok (.if_icmp .lt 5, 3) := by decide +kernel
theorem dX4_openStack_8 : decode cX4_openStack 8 = .ok (.iconst (-1), 1) := by decide +kernel
theorem dX4_openStack_9 : decode cX4_openStack 9 = .ok (.ireturn, 1) := by decide +kernel
theorem dX4_openStack_10 : decode cX4_openStack 10 = .ok (.aload_n 0, 1) := by decide +kernel
theorem dX4_openStack_11 : decode cX4_openStack 11 = .ok (.getfield 34, 3) := by decide +kernel
theorem dX4_openStack_14 : decode cX4_openStack 14 = .ok (.istore_n 2, 1) := by decide +kernel
theorem dX4_openStack_15 : decode cX4_openStack 15 = .ok (.aload_n 0, 1) := by decide +kernel
theorem dX4_openStack_16 : decode cX4_openStack 16 = .ok (.dup, 1) := by decide +kernel
theorem dX4_openStack_17 : decode cX4_openStack 17 = .ok (.getfield 34, 3) := by decide +kernel
theorem dX4_openStack_20 : decode cX4_openStack 20 = .ok (.iconst 1, 1) := by decide +kernel
theorem dX4_openStack_21 : decode cX4_openStack 21 = .ok (.iadd, 1) := by decide +kernel
theorem dX4_openStack_22 : decode cX4_openStack 22 = .ok (.putfield 34, 3) := by decide +kernel
theorem dX4_openStack_25 : decode cX4_openStack 25 = .ok (.aload_n 0, 1) := by decide +kernel
theorem dX4_openStack_26 : decode cX4_openStack 26 = .ok (.getfield 9, 3) := by decide +kernel
theorem dX4_openStack_29 : decode cX4_openStack 29 = .ok (.iload_n 2, 1) := by decide +kernel
theorem dX4_openStack_30 : decode cX4_openStack 30 = .ok (.iload_n 1, 1) := by decide +kernel
theorem dX4_openStack_31 : decode cX4_openStack 31 = .ok (.iastore, 1) := by decide +kernel
theorem dX4_openStack_32 : decode cX4_openStack 32 = .ok (.iload_n 2, 1) := by decide +kernel
theorem dX4_openStack_33 : decode cX4_openStack 33 = .ok (.ireturn, 1) := by decide +kernel
theorem dX4_stackCount_0 : decode cX4_stackCount 0 = .ok (.aload_n 0, 1) := by decide +kernel
theorem dX4_stackCount_1 : decode cX4_stackCount 1 = .ok (.getfield 34, 3) := by decide +kernel
theorem dX4_stackCount_4 : decode cX4_stackCount 4 = .ok (.ireturn, 1) := by decide +kernel
theorem dX4_boxCount_0 : decode cX4_boxCount 0 = .ok (.aload_n 0, 1) := by decide +kernel
theorem dX4_boxCount_1 : decode cX4_boxCount 1 = .ok (.getfield 38, 3) := by decide +kernel
theorem dX4_boxCount_4 : decode cX4_boxCount 4 = .ok (.ireturn, 1) := by decide +kernel
theorem dX4_hasStack_0 : decode cX4_hasStack 0 = .ok (.iload_n 1, 1) := by decide +kernel
theorem dX4_hasStack_1 : decode cX4_hasStack 1 = .ok (.ifCond .lt 15, 3) := by decide +kernel
theorem dX4_hasStack_4 : decode cX4_hasStack 4 = .ok (.iload_n 1, 1) := by decide +kernel
theorem dX4_hasStack_5 : decode cX4_hasStack 5 = .ok (.aload_n 0, 1) := by decide +kernel
theorem dX4_hasStack_6 : decode cX4_hasStack 6 = .ok (.getfield 34, 3) := by decide +kernel
theorem dX4_hasStack_9 : decode cX4_hasStack 9 = .ok (.if_icmp .ge 7, 3) := by decide +kernel
theorem dX4_hasStack_12 : decode cX4_hasStack 12 = .ok (.iconst 1, 1) := by decide +kernel
theorem dX4_hasStack_13 : decode cX4_hasStack 13 = .ok (.goto 4, 3) := by decide +kernel
theorem dX4_hasStack_16 : decode cX4_hasStack 16 = .ok (.iconst 0, 1) := by decide +kernel
theorem dX4_hasStack_17 : decode cX4_hasStack 17 = .ok (.ireturn, 1) := by decide +kernel
theorem dX4_heightOf_0 : decode cX4_heightOf 0 = .ok (.iload_n 1, 1) := by decide +kernel
theorem dX4_heightOf_1 : decode cX4_heightOf 1 = .ok (.ifCond .lt 20, 3) := by decide +kernel
theorem dX4_heightOf_4 : decode cX4_heightOf 4 = .ok (.iload_n 1, 1) := by decide +kernel
theorem dX4_heightOf_5 : decode cX4_heightOf 5 = .ok (.aload_n 0, 1) := by decide +kernel
theorem dX4_heightOf_6 : decode cX4_heightOf 6 = .ok (.getfield 34, 3) := by decide +kernel
theorem dX4_heightOf_9 : decode cX4_heightOf 9 = .ok (.if_icmp .ge 12, 3) := by decide +kernel
theorem dX4_heightOf_12 : decode cX4_heightOf 12 = .ok (.aload_n 0, 1) := by decide +kernel
theorem dX4_heightOf_13 : decode cX4_heightOf 13 = .ok (.getfield 15, 3) := by decide +kernel
theorem dX4_heightOf_16 : decode cX4_heightOf 16 = .ok (.iload_n 1, 1) := by decide +kernel
theorem dX4_heightOf_17 : decode cX4_heightOf 17 = .ok (.iaload, 1) := by decide +kernel
theorem dX4_heightOf_18 : decode cX4_heightOf 18 = .ok (.goto 4, 3) := by decide +kernel
theorem dX4_heightOf_21 : decode cX4_heightOf 21 = .ok (.iconst 0, 1) := by decide +kernel
theorem dX4_heightOf_22 : decode cX4_heightOf 22 = .ok (.ireturn, 1) := by decide +kernel
theorem dX4_isFull_0 : decode cX4_isFull 0 = .ok (.iload_n 1, 1) := by decide +kernel
theorem dX4_isFull_1 : decode cX4_isFull 1 = .ok (.ifCond .lt 26, 3) := by decide +kernel
theorem dX4_isFull_4 : decode cX4_isFull 4 = .ok (.iload_n 1, 1) := by decide +kernel
theorem dX4_isFull_5 : decode cX4_isFull 5 = .ok (.aload_n 0, 1) := by decide +kernel
theorem dX4_isFull_6 : decode cX4_isFull 6 = .ok (.getfield 34, 3) := by decide +kernel
theorem dX4_isFull_9 : decode cX4_isFull 9 = .ok (.if_icmp .ge 18, 3) := by decide +kernel
theorem dX4_isFull_12 : decode cX4_isFull 12 = .ok (.aload_n 0, 1) := by decide +kernel
theorem dX4_isFull_13 : decode cX4_isFull 13 = .ok (.getfield 15, 3) := by decide +kernel
theorem dX4_isFull_16 : decode cX4_isFull 16 = .ok (.iload_n 1, 1) := by decide +kernel
theorem dX4_isFull_17 : decode cX4_isFull 17 = .ok (.iaload, 1) := by decide +kernel
theorem dX4_isFull_18 : decode cX4_isFull 18 = .ok (.aload_n 0, 1) := by decide +kernel
theorem dX4_isFull_19 : decode cX4_isFull 19 = .ok (.getfield 9, 3) := by decide +kernel
theorem dX4_isFull_22 : decode cX4_isFull 22 = .ok (.iload_n 1, 1) := by decide +kernel
theorem dX4_isFull_23 : decode cX4_isFull 23 = .ok (.iaload, 1) := by decide +kernel
theorem dX4_isFull_24 : decode cX4_isFull 24 = .ok (.if_icmp .lt 7, 3) := by decide +kernel
theorem dX4_isFull_27 : decode cX4_isFull 27 = .ok (.iconst 1, 1) := by decide +kernel
theorem dX4_isFull_28 : decode cX4_isFull 28 = .ok (.goto 4, 3) := by decide +kernel
theorem dX4_isFull_31 : decode cX4_isFull 31 = .ok (.iconst 0, 1) := by decide +kernel
theorem dX4_isFull_32 : decode cX4_isFull 32 = .ok (.ireturn, 1) := by decide +kernel
theorem dX4_bears_0 : decode cX4_bears 0 = .ok (.aload_n 0, 1) := by decide +kernel
theorem dX4_bears_1 : decode cX4_bears 1 = .ok (.iload_n 1, 1) := by decide +kernel
theorem dX4_bears_2 : decode cX4_bears 2 = .ok (.invokevirtual 41, 3) := by decide +kernel
theorem dX4_bears_5 : decode cX4_bears 5 = .ok (.istore_n 3, 1) := by decide +kernel
theorem dX4_bears_6 : decode cX4_bears 6 = .ok (.iload_n 3, 1) := by decide +kernel
theorem dX4_bears_7 : decode cX4_bears 7 = .ok (.iconst (-1), 1) := by decide +kernel
theorem dX4_bears_8 : decode cX4_bears 8 = .ok (.if_icmp .eq 15, 3) := by decide +kernel
theorem dX4_bears_11 : decode cX4_bears 11 = .ok (.aload_n 0, 1) := by decide +kernel
theorem dX4_bears_12 : decode cX4_bears 12 = .ok (.getfield 24, 3) := by decide +kernel
theorem dX4_bears_15 : decode cX4_bears 15 = .ok (.iload_n 3, 1) := by decide +kernel
theorem dX4_bears_16 : decode cX4_bears 16 = .ok (.invokevirtual 45, 3) := by decide +kernel
theorem dX4_bears_19 : decode cX4_bears 19 = .ok (.iload_n 2, 1) := by decide +kernel
theorem dX4_bears_20 : decode cX4_bears 20 = .ok (.if_icmp .lt 7, 3) := by decide +kernel
theorem dX4_bears_23 : decode cX4_bears 23 = .ok (.iconst 1, 1) := by decide +kernel
theorem dX4_bears_24 : decode cX4_bears 24 = .ok (.goto 4, 3) := by decide +kernel
theorem dX4_bears_27 : decode cX4_bears 27 = .ok (.iconst 0, 1) := by decide +kernel
theorem dX4_bears_28 : decode cX4_bears 28 = .ok (.ireturn, 1) := by decide +kernel
theorem dX4_stackWith_0 : decode cX4_stackWith 0 = .ok (.iload_n 1, 1) := by decide +kernel
theorem dX4_stackWith_1 : decode cX4_stackWith 1 = .ok (.ifCond .lt 18, 3) := by decide +kernel
theorem dX4_stackWith_4 : decode cX4_stackWith 4 = .ok (.iload_n 1, 1) := by decide +kernel
theorem dX4_stackWith_5 : decode cX4_stackWith 5 = .ok (.bipush 20, 2) := by decide +kernel
theorem dX4_stackWith_7 : decode cX4_stackWith 7 = .ok (.if_icmp .ge 12, 3) := by decide +kernel
theorem dX4_stackWith_10 : decode cX4_stackWith 10 = .ok (.aload_n 0, 1) := by decide +kernel
theorem dX4_stackWith_11 : decode cX4_stackWith 11 = .ok (.getfield 21, 3) := by decide +kernel
theorem dX4_stackWith_14 : decode cX4_stackWith 14 = .ok (.iload_n 1, 1) := by decide +kernel
theorem dX4_stackWith_15 : decode cX4_stackWith 15 = .ok (.iaload, 1) := by decide +kernel
theorem dX4_stackWith_16 : decode cX4_stackWith 16 = .ok (.goto 4, 3) := by decide +kernel
theorem dX4_stackWith_19 : decode cX4_stackWith 19 = .ok (.iconst (-1), 1) := by decide +kernel
theorem dX4_stackWith_20 : decode cX4_stackWith 20 = .ok (.ireturn, 1) := by decide +kernel
theorem dX4_boxOn_0 : decode cX4_boxOn 0 = .ok (.iload_n 2, 1) := by decide +kernel
theorem dX4_boxOn_1 : decode cX4_boxOn 1 = .ok (.ifCond .lt 12, 3) := by decide +kernel
theorem dX4_boxOn_4 : decode cX4_boxOn 4 = .ok (.iload_n 2, 1) := by decide +kernel
theorem dX4_boxOn_5 : decode cX4_boxOn 5 = .ok (.aload_n 0, 1) := by decide +kernel
theorem dX4_boxOn_6 : decode cX4_boxOn 6 = .ok (.iload_n 1, 1) := by decide +kernel
theorem dX4_boxOn_7 : decode cX4_boxOn 7 = .ok (.invokevirtual 50, 3) := by decide +kernel
theorem dX4_boxOn_10 : decode cX4_boxOn 10 = .ok (.if_icmp .lt 5, 3) := by decide +kernel
theorem dX4_boxOn_13 : decode cX4_boxOn 13 = .ok (.iconst (-1), 1) := by decide +kernel
theorem dX4_boxOn_14 : decode cX4_boxOn 14 = .ok (.ireturn, 1) := by decide +kernel
theorem dX4_boxOn_15 : decode cX4_boxOn 15 = .ok (.aload_n 0, 1) := by decide +kernel
theorem dX4_boxOn_16 : decode cX4_boxOn 16 = .ok (.getfield 18, 3) := by decide +kernel
theorem dX4_boxOn_19 : decode cX4_boxOn 19 = .ok (.iload_n 1, 1) := by decide +kernel
theorem dX4_boxOn_20 : decode cX4_boxOn 20 = .ok (.iconst 4, 1) := by decide +kernel
theorem dX4_boxOn_21 : decode cX4_boxOn 21 = .ok (.imul, 1) := by decide +kernel
theorem dX4_boxOn_22 : decode cX4_boxOn 22 = .ok (.iload_n 2, 1) := by decide +kernel
theorem dX4_boxOn_23 : decode cX4_boxOn 23 = .ok (.iadd, 1) := by decide +kernel
theorem dX4_boxOn_24 : decode cX4_boxOn 24 = .ok (.iaload, 1) := by decide +kernel
theorem dX4_boxOn_25 : decode cX4_boxOn 25 = .ok (.ireturn, 1) := by decide +kernel
theorem dX4_topOf_0 : decode cX4_topOf 0 = .ok (.iload_n 1, 1) := by decide +kernel
theorem dX4_topOf_1 : decode cX4_topOf 1 = .ok (.ifCond .lt 20, 3) := by decide +kernel
theorem dX4_topOf_4 : decode cX4_topOf 4 = .ok (.iload_n 1, 1) := by decide +kernel
theorem dX4_topOf_5 : decode cX4_topOf 5 = .ok (.aload_n 0, 1) := by decide +kernel
theorem dX4_topOf_6 : decode cX4_topOf 6 = .ok (.getfield 34, 3) := by decide +kernel
theorem dX4_topOf_9 : decode cX4_topOf 9 = .ok (.if_icmp .ge 12, 3) := by decide +kernel
theorem dX4_topOf_12 : decode cX4_topOf 12 = .ok (.aload_n 0, 1) := by decide +kernel
theorem dX4_topOf_13 : decode cX4_topOf 13 = .ok (.getfield 15, 3) := by decide +kernel
theorem dX4_topOf_16 : decode cX4_topOf 16 = .ok (.iload_n 1, 1) := by decide +kernel
theorem dX4_topOf_17 : decode cX4_topOf 17 = .ok (.iaload, 1) := by decide +kernel
theorem dX4_topOf_18 : decode cX4_topOf 18 = .ok (.ifCond .ne 5, 3) := by decide +kernel
theorem dX4_topOf_21 : decode cX4_topOf 21 = .ok (.iconst (-1), 1) := by decide +kernel
theorem dX4_topOf_22 : decode cX4_topOf 22 = .ok (.ireturn, 1) := by decide +kernel
theorem dX4_topOf_23 : decode cX4_topOf 23 = .ok (.aload_n 0, 1) := by decide +kernel
theorem dX4_topOf_24 : decode cX4_topOf 24 = .ok (.getfield 18, 3) := by decide +kernel
theorem dX4_topOf_27 : decode cX4_topOf 27 = .ok (.iload_n 1, 1) := by decide +kernel
theorem dX4_topOf_28 : decode cX4_topOf 28 = .ok (.iconst 4, 1) := by decide +kernel
theorem dX4_topOf_29 : decode cX4_topOf 29 = .ok (.imul, 1) := by decide +kernel
theorem dX4_topOf_30 : decode cX4_topOf 30 = .ok (.aload_n 0, 1) := by decide +kernel
theorem dX4_topOf_31 : decode cX4_topOf 31 = .ok (.getfield 15, 3) := by decide +kernel
theorem dX4_topOf_34 : decode cX4_topOf 34 = .ok (.iload_n 1, 1) := by decide +kernel
theorem dX4_topOf_35 : decode cX4_topOf 35 = .ok (.iaload, 1) := by decide +kernel
theorem dX4_topOf_36 : decode cX4_topOf 36 = .ok (.iadd, 1) := by decide +kernel
theorem dX4_topOf_37 : decode cX4_topOf 37 = .ok (.iconst 1, 1) := by decide +kernel
theorem dX4_topOf_38 : decode cX4_topOf 38 = .ok (.isub, 1) := by decide +kernel
theorem dX4_topOf_39 : decode cX4_topOf 39 = .ok (.iaload, 1) := by decide +kernel
theorem dX4_topOf_40 : decode cX4_topOf 40 = .ok (.ireturn, 1) := by decide +kernel
theorem dX4_boxesUnder_0 : decode cX4_boxesUnder 0 = .ok (.aload_n 0, 1) := by decide +kernel
theorem dX4_boxesUnder_1 : decode cX4_boxesUnder 1 = .ok (.iload_n 1, 1) := by decide +kernel
theorem dX4_boxesUnder_2 : decode cX4_boxesUnder 2 = .ok (.invokevirtual 53, 3) := by decide +kernel
theorem dX4_boxesUnder_5 : decode cX4_boxesUnder 5 = .ok (.istore_n 2, 1) := by decide +kernel
theorem dX4_boxesUnder_6 : decode cX4_boxesUnder 6 = .ok (.iconst 0, 1) := by decide +kernel
theorem dX4_boxesUnder_7 : decode cX4_boxesUnder 7 = .ok (.istore_n 3, 1) := by decide +kernel
theorem dX4_boxesUnder_8 : decode cX4_boxesUnder 8 = .ok (.iload_n 3, 1) := by decide +kernel
theorem dX4_boxesUnder_9 : decode cX4_boxesUnder 9 = .ok (.aload_n 0, 1) := by decide +kernel
theorem dX4_boxesUnder_10 : decode cX4_boxesUnder 10 = .ok (.iload_n 2, 1) := by decide +kernel
theorem dX4_boxesUnder_11 : decode cX4_boxesUnder 11 = .ok (.invokevirtual 50, 3) := by decide +kernel
theorem dX4_boxesUnder_14 : decode cX4_boxesUnder 14 = .ok (.if_icmp .ge 19, 3) := by decide +kernel
theorem dX4_boxesUnder_17 : decode cX4_boxesUnder 17 = .ok (.aload_n 0, 1) := by decide +kernel
theorem dX4_boxesUnder_18 : decode cX4_boxesUnder 18 = .ok (.iload_n 2, 1) := by decide +kernel
theorem dX4_boxesUnder_19 : decode cX4_boxesUnder 19 = .ok (.iload_n 3, 1) := by decide +kernel
theorem dX4_boxesUnder_20 : decode cX4_boxesUnder 20 = .ok (.invokevirtual 56, 3) := by decide +kernel
theorem dX4_boxesUnder_23 : decode cX4_boxesUnder 23 = .ok (.iload_n 1, 1) := by decide +kernel
theorem dX4_boxesUnder_24 : decode cX4_boxesUnder 24 = .ok (.if_icmp .eq 9, 3) := by decide +kernel
theorem dX4_boxesUnder_27 : decode cX4_boxesUnder 27 = .ok (.iinc 3 1, 3) := by decide +kernel
theorem dX4_boxesUnder_30 : decode cX4_boxesUnder 30 = .ok (.goto (-22), 3) := by decide +kernel
theorem dX4_boxesUnder_33 : decode cX4_boxesUnder 33 = .ok (.iload_n 3, 1) := by decide +kernel
theorem dX4_boxesUnder_34 : decode cX4_boxesUnder 34 = .ok (.ireturn, 1) := by decide +kernel
theorem dX4_boxesOver_0 : decode cX4_boxesOver 0 = .ok (.aload_n 0, 1) := by decide +kernel
theorem dX4_boxesOver_1 : decode cX4_boxesOver 1 = .ok (.iload_n 1, 1) := by decide +kernel
theorem dX4_boxesOver_2 : decode cX4_boxesOver 2 = .ok (.invokevirtual 53, 3) := by decide +kernel
theorem dX4_boxesOver_5 : decode cX4_boxesOver 5 = .ok (.istore_n 2, 1) := by decide +kernel
theorem dX4_boxesOver_6 : decode cX4_boxesOver 6 = .ok (.iload_n 2, 1) := by decide +kernel
theorem dX4_boxesOver_7 : decode cX4_boxesOver 7 = .ok (.iconst (-1), 1) := by decide +kernel
theorem dX4_boxesOver_8 : decode cX4_boxesOver 8 = .ok (.if_icmp .ne 7, 3) := by decide +kernel
theorem dX4_boxesOver_11 : decode cX4_boxesOver 11 = .ok (.iconst 0, 1) := by decide +kernel
theorem dX4_boxesOver_12 : decode cX4_boxesOver 12 = .ok (.goto 16, 3) := by decide +kernel
theorem dX4_boxesOver_15 : decode cX4_boxesOver 15 = .ok (.aload_n 0, 1) := by decide +kernel
theorem dX4_boxesOver_16 : decode cX4_boxesOver 16 = .ok (.iload_n 2, 1) := by decide +kernel
theorem dX4_boxesOver_17 : decode cX4_boxesOver 17 = .ok (.invokevirtual 50, 3) := by decide +kernel
theorem dX4_boxesOver_20 : decode cX4_boxesOver 20 = .ok (.iconst 1, 1) := by decide +kernel
theorem dX4_boxesOver_21 : decode cX4_boxesOver 21 = .ok (.isub, 1) := by decide +kernel
theorem dX4_boxesOver_22 : decode cX4_boxesOver 22 = .ok (.aload_n 0, 1) := by decide +kernel
theorem dX4_boxesOver_23 : decode cX4_boxesOver 23 = .ok (.iload_n 1, 1) := by decide +kernel
theorem dX4_boxesOver_24 : decode cX4_boxesOver 24 = .ok (.invokevirtual 60, 3) := by decide +kernel
theorem dX4_boxesOver_27 : decode cX4_boxesOver 27 = .ok (.isub, 1) := by decide +kernel
theorem dX4_boxesOver_28 : decode cX4_boxesOver 28 = .ok (.ireturn, 1) := by decide +kernel
theorem dX4_pinnedOver_0 : decode cX4_pinnedOver 0 = .ok (.aload_n 0, 1) := by decide +kernel
theorem dX4_pinnedOver_1 : decode cX4_pinnedOver 1 = .ok (.iload_n 1, 1) := by decide +kernel
theorem dX4_pinnedOver_2 : decode cX4_pinnedOver 2 = .ok (.invokevirtual 53, 3) := by decide +kernel
theorem dX4_pinnedOver_5 : decode cX4_pinnedOver 5 = .ok (.istore_n 2, 1) := by decide +kernel
theorem dX4_pinnedOver_6 : decode cX4_pinnedOver 6 = .ok (.iconst 0, 1) := by decide +kernel
theorem dX4_pinnedOver_7 : decode cX4_pinnedOver 7 = .ok (.istore_n 3, 1) := by decide +kernel
theorem dX4_pinnedOver_8 : decode cX4_pinnedOver 8 = .ok (.aload_n 0, 1) := by decide +kernel
theorem dX4_pinnedOver_9 : decode cX4_pinnedOver 9 = .ok (.iload_n 1, 1) := by decide +kernel
theorem dX4_pinnedOver_10 : decode cX4_pinnedOver 10 = .ok (.invokevirtual 60, 3) := by decide +kernel
theorem dX4_pinnedOver_13 : decode cX4_pinnedOver 13 = .ok (.iconst 1, 1) := by decide +kernel
theorem dX4_pinnedOver_14 : decode cX4_pinnedOver 14 = .ok (.iadd, 1) := by decide +kernel
theorem dX4_pinnedOver_15 : decode cX4_pinnedOver 15 = .ok (.istore 4, 2) := by decide +kernel
theorem dX4_pinnedOver_17 : decode cX4_pinnedOver 17 = .ok (.iload 4, 2) := by decide +kernel
theorem dX4_pinnedOver_19 : decode cX4_pinnedOver 19 = .ok (.aload_n 0, 1) := by decide +kernel
theorem dX4_pinnedOver_20 : decode cX4_pinnedOver 20 = .ok (.iload_n 2, 1) := by decide +kernel
theorem dX4_pinnedOver_21 : decode cX4_pinnedOver 21 = .ok (.invokevirtual 50, 3) := by decide +kernel
theorem dX4_pinnedOver_24 : decode cX4_pinnedOver 24 = .ok (.if_icmp .ge 29, 3) := by decide +kernel
theorem dX4_pinnedOver_27 : decode cX4_pinnedOver 27 = .ok (.aload_n 0, 1) := by decide +kernel
theorem dX4_pinnedOver_28 : decode cX4_pinnedOver 28 = .ok (.getfield 24, 3) := by decide +kernel
theorem dX4_pinnedOver_31 : decode cX4_pinnedOver 31 = .ok (.aload_n 0, 1) := by decide +kernel
theorem dX4_pinnedOver_32 : decode cX4_pinnedOver 32 = .ok (.iload_n 2, 1) := by decide +kernel
theorem dX4_pinnedOver_33 : decode cX4_pinnedOver 33 = .ok (.iload 4, 2) := by decide +kernel
theorem dX4_pinnedOver_35 : decode cX4_pinnedOver 35 = .ok (.invokevirtual 56, 3) := by decide +kernel
theorem dX4_pinnedOver_38 : decode cX4_pinnedOver 38 = .ok (.invokevirtual 63, 3) := by decide +kernel
theorem dX4_pinnedOver_41 : decode cX4_pinnedOver 41 = .ok (.ifCond .eq 6, 3) := by decide +kernel
theorem dX4_pinnedOver_44 : decode cX4_pinnedOver 44 = .ok (.iinc 3 1, 3) := by decide +kernel
theorem dX4_pinnedOver_47 : decode cX4_pinnedOver 47 = .ok (.iinc 4 1, 3) := by decide +kernel
theorem dX4_pinnedOver_50 : decode cX4_pinnedOver 50 = .ok (.goto (-33), 3) := by decide +kernel
theorem dX4_pinnedOver_53 : decode cX4_pinnedOver 53 = .ok (.iload_n 3, 1) := by decide +kernel
theorem dX4_pinnedOver_54 : decode cX4_pinnedOver 54 = .ok (.ireturn, 1) := by decide +kernel
theorem dX4_reasonAgainst_0 : decode cX4_reasonAgainst 0 = .ok (.aload_n 0, 1) := by decide +kernel
theorem dX4_reasonAgainst_1 : decode cX4_reasonAgainst 1 = .ok (.iload_n 1, 1) := by decide +kernel
theorem dX4_reasonAgainst_2 : decode cX4_reasonAgainst 2 = .ok (.invokevirtual 53, 3) := by decide +kernel
theorem dX4_reasonAgainst_5 : decode cX4_reasonAgainst 5 = .ok (.istore_n 3, 1) := by decide +kernel
theorem dX4_reasonAgainst_6 : decode cX4_reasonAgainst 6 = .ok (.iload_n 3, 1) := by decide +kernel
theorem dX4_reasonAgainst_7 : decode cX4_reasonAgainst 7 = .ok (.iconst (-1), 1) := by decide +kernel
theorem dX4_reasonAgainst_8 : decode cX4_reasonAgainst 8 = .ok (.if_icmp .eq 12, 3) := by decide +kernel
theorem dX4_reasonAgainst_11 : decode cX4_reasonAgainst 11 = .ok (.aload_n 0, 1) := by decide +kernel
theorem dX4_reasonAgainst_12 : decode cX4_reasonAgainst 12 = .ok (.iload_n 3, 1) := by decide +kernel
theorem dX4_reasonAgainst_13 : decode cX4_reasonAgainst 13 = .ok (.invokevirtual 41, 3) := by decide +kernel
theorem dX4_reasonAgainst_16 : decode cX4_reasonAgainst 16 = .ok (.iload_n 1, 1) := by decide +kernel
theorem dX4_reasonAgainst_17 : decode cX4_reasonAgainst 17 = .ok (.if_icmp .eq 6, 3) := by decide +kernel
theorem dX4_reasonAgainst_20 : decode cX4_reasonAgainst 20 = .ok (.bipush 116, 2) := by decide +kernel
theorem dX4_reasonAgainst_22 : decode cX4_reasonAgainst 22 = .ok (.ireturn, 1) := by decide +kernel
theorem dX4_reasonAgainst_23 : decode cX4_reasonAgainst 23 = .ok (.aload_n 0, 1) := by decide +kernel
theorem dX4_reasonAgainst_24 : decode cX4_reasonAgainst 24 = .ok (.getfield 24, 3) := by decide +kernel
theorem dX4_reasonAgainst_27 : decode cX4_reasonAgainst 27 = .ok (.iload_n 1, 1) := by decide +kernel
theorem dX4_reasonAgainst_28 : decode cX4_reasonAgainst 28 = .ok (.invokevirtual 63, 3) := by decide +kernel
theorem dX4_reasonAgainst_31 : decode cX4_reasonAgainst 31 = .ok (.ifCond .eq 6, 3) := by decide +kernel
theorem dX4_reasonAgainst_34 : decode cX4_reasonAgainst 34 = .ok (.bipush 112, 2) := by decide +kernel
theorem dX4_reasonAgainst_36 : decode cX4_reasonAgainst 36 = .ok (.ireturn, 1) := by decide +kernel
theorem dX4_reasonAgainst_37 : decode cX4_reasonAgainst 37 = .ok (.iload_n 3, 1) := by decide +kernel
theorem dX4_reasonAgainst_38 : decode cX4_reasonAgainst 38 = .ok (.iload_n 2, 1) := by decide +kernel
theorem dX4_reasonAgainst_39 : decode cX4_reasonAgainst 39 = .ok (.if_icmp .ne 6, 3) := by decide +kernel
theorem dX4_reasonAgainst_42 : decode cX4_reasonAgainst 42 = .ok (.bipush 115, 2) := by decide +kernel
theorem dX4_reasonAgainst_44 : decode cX4_reasonAgainst 44 = .ok (.ireturn, 1) := by decide +kernel
theorem dX4_reasonAgainst_45 : decode cX4_reasonAgainst 45 = .ok (.aload_n 0, 1) := by decide +kernel
theorem dX4_reasonAgainst_46 : decode cX4_reasonAgainst 46 = .ok (.iload_n 2, 1) := by decide +kernel
theorem dX4_reasonAgainst_47 : decode cX4_reasonAgainst 47 = .ok (.invokevirtual 67, 3) := by decide +kernel
theorem dX4_reasonAgainst_50 : decode cX4_reasonAgainst 50 = .ok (.ifCond .eq 6, 3) := by decide +kernel
theorem dX4_reasonAgainst_53 : decode cX4_reasonAgainst 53 = .ok (.bipush 102, 2) := by decide +kernel
theorem dX4_reasonAgainst_55 : decode cX4_reasonAgainst 55 = .ok (.ireturn, 1) := by decide +kernel
theorem dX4_reasonAgainst_56 : decode cX4_reasonAgainst 56 = .ok (.aload_n 0, 1) := by decide +kernel
theorem dX4_reasonAgainst_57 : decode cX4_reasonAgainst 57 = .ok (.iload_n 2, 1) := by decide +kernel
theorem dX4_reasonAgainst_58 : decode cX4_reasonAgainst 58 = .ok (.aload_n 0, 1) := by decide +kernel
theorem dX4_reasonAgainst_59 : decode cX4_reasonAgainst 59 = .ok (.getfield 24, 3) := by decide +kernel
theorem dX4_reasonAgainst_62 : decode cX4_reasonAgainst 62 = .ok (.iload_n 1, 1) := by decide +kernel
theorem dX4_reasonAgainst_63 : decode cX4_reasonAgainst 63 = .ok (.invokevirtual 45, 3) := by decide +kernel
theorem dX4_reasonAgainst_66 : decode cX4_reasonAgainst 66 = .ok (.invokevirtual 70, 3) := by decide +kernel
theorem dX4_reasonAgainst_69 : decode cX4_reasonAgainst 69 = .ok (.ifCond .eq 8, 3) := by decide +kernel
theorem dX4_reasonAgainst_72 : decode cX4_reasonAgainst 72 = .ok (.bipush 45, 2) := by decide +kernel
theorem dX4_reasonAgainst_74 : decode cX4_reasonAgainst 74 = .ok (.goto 5, 3) := by decide +kernel
theorem dX4_reasonAgainst_77 : decode cX4_reasonAgainst 77 = .ok (.bipush 119, 2) := by decide +kernel
theorem dX4_reasonAgainst_79 : decode cX4_reasonAgainst 79 = .ok (.ireturn, 1) := by decide +kernel
theorem dX4_put_0 : decode cX4_put 0 = .ok (.iload_n 1, 1) := by decide +kernel
theorem dX4_put_1 : decode cX4_put 1 = .ok (.ifCond .lt 17, 3) := by decide +kernel
theorem dX4_put_4 : decode cX4_put 4 = .ok (.iload_n 1, 1) := by decide +kernel
theorem dX4_put_5 : decode cX4_put 5 = .ok (.bipush 20, 2) := by decide +kernel
theorem dX4_put_7 : decode cX4_put 7 = .ok (.if_icmp .ge 11, 3) := by decide +kernel
theorem dX4_put_10 : decode cX4_put 10 = .ok (.aload_n 0, 1) := by decide +kernel
theorem dX4_put_11 : decode cX4_put 11 = .ok (.iload_n 2, 1) := by decide +kernel
theorem dX4_put_12 : decode cX4_put 12 = .ok (.invokevirtual 67, 3) := by decide +kernel
theorem dX4_put_15 : decode cX4_put 15 = .ok (.ifCond .eq 4, 3) := by decide +kernel
theorem dX4_put_18 : decode cX4_put 18 = .ok (.return_, 1) := by decide +kernel
theorem dX4_put_19 : decode cX4_put 19 = .ok (.aload_n 0, 1) := by decide +kernel
theorem dX4_put_20 : decode cX4_put 20 = .ok (.getfield 18, 3) := by decide +kernel
theorem dX4_put_23 : decode cX4_put 23 = .ok (.iload_n 2, 1) := by decide +kernel
theorem dX4_put_24 : decode cX4_put 24 = .ok (.iconst 4, 1) := by decide +kernel
theorem dX4_put_25 : decode cX4_put 25 = .ok (.imul, 1) := by decide +kernel
theorem dX4_put_26 : decode cX4_put 26 = .ok (.aload_n 0, 1) := by decide +kernel
theorem dX4_put_27 : decode cX4_put 27 = .ok (.getfield 15, 3) := by decide +kernel
theorem dX4_put_30 : decode cX4_put 30 = .ok (.iload_n 2, 1) := by decide +kernel
theorem dX4_put_31 : decode cX4_put 31 = .ok (.iaload, 1) := by decide +kernel
theorem dX4_put_32 : decode cX4_put 32 = .ok (.iadd, 1) := by decide +kernel
theorem dX4_put_33 : decode cX4_put 33 = .ok (.iload_n 1, 1) := by decide +kernel
theorem dX4_put_34 : decode cX4_put 34 = .ok (.iastore, 1) := by decide +kernel
theorem dX4_put_35 : decode cX4_put 35 = .ok (.aload_n 0, 1) := by decide +kernel
theorem dX4_put_36 : decode cX4_put 36 = .ok (.getfield 15, 3) := by decide +kernel
theorem dX4_put_39 : decode cX4_put 39 = .ok (.iload_n 2, 1) := by decide +kernel
theorem dX4_put_40 : decode cX4_put 40 = .ok (.dup2, 1) := by decide +kernel
theorem dX4_put_41 : decode cX4_put 41 = .ok (.iaload, 1) := by decide +kernel
theorem dX4_put_42 : decode cX4_put 42 = .ok (.iconst 1, 1) := by decide +kernel
theorem dX4_put_43 : decode cX4_put 43 = .ok (.iadd, 1) := by decide +kernel
theorem dX4_put_44 : decode cX4_put 44 = .ok (.iastore, 1) := by decide +kernel
theorem dX4_put_45 : decode cX4_put 45 = .ok (.aload_n 0, 1) := by decide +kernel
theorem dX4_put_46 : decode cX4_put 46 = .ok (.getfield 21, 3) := by decide +kernel
theorem dX4_put_49 : decode cX4_put 49 = .ok (.iload_n 1, 1) := by decide +kernel
theorem dX4_put_50 : decode cX4_put 50 = .ok (.iload_n 2, 1) := by decide +kernel
theorem dX4_put_51 : decode cX4_put 51 = .ok (.iastore, 1) := by decide +kernel
theorem dX4_put_52 : decode cX4_put 52 = .ok (.aload_n 0, 1) := by decide +kernel
theorem dX4_put_53 : decode cX4_put 53 = .ok (.dup, 1) := by decide +kernel
theorem dX4_put_54 : decode cX4_put 54 = .ok (.getfield 38, 3) := by decide +kernel
theorem dX4_put_57 : decode cX4_put 57 = .ok (.iconst 1, 1) := by decide +kernel
theorem dX4_put_58 : decode cX4_put 58 = .ok (.iadd, 1) := by decide +kernel
theorem dX4_put_59 : decode cX4_put 59 = .ok (.putfield 38, 3) := by decide +kernel
theorem dX4_put_62 : decode cX4_put 62 = .ok (.return_, 1) := by decide +kernel
theorem dX4_take_0 : decode cX4_take 0 = .ok (.aload_n 0, 1) := by decide +kernel
theorem dX4_take_1 : decode cX4_take 1 = .ok (.iload_n 1, 1) := by decide +kernel
theorem dX4_take_2 : decode cX4_take 2 = .ok (.invokevirtual 41, 3) := by decide +kernel
theorem dX4_take_5 : decode cX4_take 5 = .ok (.istore_n 2, 1) := by decide +kernel
theorem dX4_take_6 : decode cX4_take 6 = .ok (.iload_n 2, 1) := by decide +kernel
theorem dX4_take_7 : decode cX4_take 7 = .ok (.iconst (-1), 1) := by decide +kernel
theorem dX4_take_8 : decode cX4_take 8 = .ok (.if_icmp .ne 4, 3) := by decide +kernel
theorem dX4_take_11 : decode cX4_take 11 = .ok (.return_, 1) := by decide +kernel
theorem dX4_take_12 : decode cX4_take 12 = .ok (.aload_n 0, 1) := by decide +kernel
theorem dX4_take_13 : decode cX4_take 13 = .ok (.getfield 15, 3) := by decide +kernel
theorem dX4_take_16 : decode cX4_take 16 = .ok (.iload_n 1, 1) := by decide +kernel
theorem dX4_take_17 : decode cX4_take 17 = .ok (.dup2, 1) := by decide +kernel
theorem dX4_take_18 : decode cX4_take 18 = .ok (.iaload, 1) := by decide +kernel
theorem dX4_take_19 : decode cX4_take 19 = .ok (.iconst 1, 1) := by decide +kernel
theorem dX4_take_20 : decode cX4_take 20 = .ok (.isub, 1) := by decide +kernel
theorem dX4_take_21 : decode cX4_take 21 = .ok (.iastore, 1) := by decide +kernel
theorem dX4_take_22 : decode cX4_take 22 = .ok (.aload_n 0, 1) := by decide +kernel
theorem dX4_take_23 : decode cX4_take 23 = .ok (.getfield 21, 3) := by decide +kernel
theorem dX4_take_26 : decode cX4_take 26 = .ok (.iload_n 2, 1) := by decide +kernel
theorem dX4_take_27 : decode cX4_take 27 = .ok (.iconst (-1), 1) := by decide +kernel
theorem dX4_take_28 : decode cX4_take 28 = .ok (.iastore, 1) := by decide +kernel
theorem dX4_take_29 : decode cX4_take 29 = .ok (.aload_n 0, 1) := by decide +kernel
theorem dX4_take_30 : decode cX4_take 30 = .ok (.dup, 1) := by decide +kernel
theorem dX4_take_31 : decode cX4_take 31 = .ok (.getfield 38, 3) := by decide +kernel
theorem dX4_take_34 : decode cX4_take 34 = .ok (.iconst 1, 1) := by decide +kernel
theorem dX4_take_35 : decode cX4_take 35 = .ok (.isub, 1) := by decide +kernel
theorem dX4_take_36 : decode cX4_take 36 = .ok (.putfield 38, 3) := by decide +kernel
theorem dX4_take_39 : decode cX4_take 39 = .ok (.return_, 1) := by decide +kernel
theorem dX4_shift_0 : decode cX4_shift 0 = .ok (.aload_n 0, 1) := by decide +kernel
theorem dX4_shift_1 : decode cX4_shift 1 = .ok (.iload_n 1, 1) := by decide +kernel
theorem dX4_shift_2 : decode cX4_shift 2 = .ok (.invokevirtual 41, 3) := by decide +kernel
theorem dX4_shift_5 : decode cX4_shift 5 = .ok (.istore_n 3, 1) := by decide +kernel
theorem dX4_shift_6 : decode cX4_shift 6 = .ok (.iload_n 3, 1) := by decide +kernel
theorem dX4_shift_7 : decode cX4_shift 7 = .ok (.iconst (-1), 1) := by decide +kernel
theorem dX4_shift_8 : decode cX4_shift 8 = .ok (.if_icmp .eq 16, 3) := by decide +kernel
theorem dX4_shift_11 : decode cX4_shift 11 = .ok (.iload_n 1, 1) := by decide +kernel
theorem dX4_shift_12 : decode cX4_shift 12 = .ok (.iload_n 2, 1) := by decide +kernel
theorem dX4_shift_13 : decode cX4_shift 13 = .ok (.if_icmp .eq 11, 3) := by decide +kernel
theorem dX4_shift_16 : decode cX4_shift 16 = .ok (.aload_n 0, 1) := by decide +kernel
theorem dX4_shift_17 : decode cX4_shift 17 = .ok (.iload_n 2, 1) := by decide +kernel
theorem dX4_shift_18 : decode cX4_shift 18 = .ok (.invokevirtual 67, 3) := by decide +kernel
theorem dX4_shift_21 : decode cX4_shift 21 = .ok (.ifCond .eq 4, 3) := by decide +kernel
theorem dX4_shift_24 : decode cX4_shift 24 = .ok (.return_, 1) := by decide +kernel
theorem dX4_shift_25 : decode cX4_shift 25 = .ok (.aload_n 0, 1) := by decide +kernel
theorem dX4_shift_26 : decode cX4_shift 26 = .ok (.iload_n 1, 1) := by decide +kernel
theorem dX4_shift_27 : decode cX4_shift 27 = .ok (.invokevirtual 74, 3) := by decide +kernel
theorem dX4_shift_30 : decode cX4_shift 30 = .ok (.aload_n 0, 1) := by decide +kernel
theorem dX4_shift_31 : decode cX4_shift 31 = .ok (.iload_n 3, 1) := by decide +kernel
theorem dX4_shift_32 : decode cX4_shift 32 = .ok (.iload_n 2, 1) := by decide +kernel
theorem dX4_shift_33 : decode cX4_shift 33 = .ok (.invokevirtual 78, 3) := by decide +kernel
theorem dX4_shift_36 : decode cX4_shift 36 = .ok (.return_, 1) := by decide +kernel
end
section
theorem dX5_init_0 : decode cX5_init 0 = .ok (.aload_n 0, 1) := by decide +kernel
theorem dX5_init_1 : decode cX5_init 1 = .ok (.invokespecial 1, 3) := by decide +kernel
theorem dX5_init_4 : decode cX5_init 4 = .ok (.new 7, 3) := by decide +kernel
theorem dX5_init_7 : decode cX5_init 7 = .ok (.dup, 1) := by decide +kernel
theorem dX5_init_8 : decode cX5_init 8 = .ok (.invokespecial 9, 3) := by decide +kernel
theorem dX5_init_11 : decode cX5_init 11 = .ok (.astore_n 1, 1) := by decide +kernel
theorem dX5_init_12 : decode cX5_init 12 = .ok (.new 10, 3) := by decide +kernel
theorem dX5_init_15 : decode cX5_init 15 = .ok (.dup, 1) := by decide +kernel
theorem dX5_init_16 : decode cX5_init 16 = .ok (.aload_n 1, 1) := by decide +kernel
theorem dX5_init_17 : decode cX5_init 17 = .ok (.invokespecial 12, 3) := by decide +kernel
theorem dX5_init_20 : decode cX5_init 20 = .ok (.astore_n 2, 1) := by decide +kernel
theorem dX5_init_21 : decode cX5_init 21 = .ok (.aload_n 0, 1) := by decide +kernel
theorem dX5_init_22 : decode cX5_init 22 = .ok (.aload_n 1, 1) := by decide +kernel
theorem dX5_init_23 : decode cX5_init 23 = .ok (.putfield 15, 3) := by decide +kernel
theorem dX5_init_26 : decode cX5_init 26 = .ok (.aload_n 0, 1) := by decide +kernel
theorem dX5_init_27 : decode cX5_init 27 = .ok (.aload_n 2, 1) := by decide +kernel
theorem dX5_init_28 : decode cX5_init 28 = .ok (.putfield 21, 3) := by decide +kernel
theorem dX5_init_31 : decode cX5_init 31 = .ok (.aload_n 0, 1) := by decide +kernel
theorem dX5_init_32 : decode cX5_init 32 = .ok (.new 25, 3) := by decide +kernel
theorem dX5_init_35 : decode cX5_init 35 = .ok (.dup, 1) := by decide +kernel
theorem dX5_init_36 : decode cX5_init 36 = .ok (.aload_n 2, 1) := by decide +kernel
theorem dX5_init_37 : decode cX5_init 37 = .ok (.new 10, 3) := by decide +kernel
theorem dX5_init_40 : decode cX5_init 40 = .ok (.dup, 1) := by decide +kernel
theorem dX5_init_41 : decode cX5_init 41 = .ok (.aload_n 1, 1) := by decide +kernel
theorem dX5_init_42 : decode cX5_init 42 = .ok (.invokespecial 12, 3) := by decide +kernel
theorem dX5_init_45 : decode cX5_init 45 = .ok (.invokespecial 27, 3) := by decide +kernel
theorem dX5_init_48 : decode cX5_init 48 = .ok (.putfield 30, 3) := by decide +kernel
theorem dX5_init_51 : decode cX5_init 51 = .ok (.aload_n 0, 1) := by decide +kernel
theorem dX5_init_52 : decode cX5_init 52 = .ok (.new 34, 3) := by decide +kernel
theorem dX5_init_55 : decode cX5_init 55 = .ok (.dup, 1) := by decide +kernel
theorem dX5_init_56 : decode cX5_init 56 = .ok (.invokespecial 36, 3) := by decide +kernel
theorem dX5_init_59 : decode cX5_init 59 = .ok (.putfield 37, 3) := by decide +kernel
theorem dX5_init_62 : decode cX5_init 62 = .ok (.return_, 1) := by decide +kernel
theorem dX5_addStack_0 : decode cX5_addStack 0 = .ok (.iload_n 1, 1) := by decide +kernel
theorem dX5_addStack_1 : decode cX5_addStack 1 = .ok (.iconst 1, 1) := by decide +kernel
theorem dX5_addStack_2 : decode cX5_addStack 2 = .ok (.if_icmp .lt 8, 3) := by decide +kernel
theorem dX5_addStack_5 : decode cX5_addStack 5 = .ok (.iload_n 1, 1) := by decide +kernel
theorem dX5_addStack_6 : decode cX5_addStack 6 = .ok (.iconst 4, 1) := by decide +kernel
theorem dX5_addStack_7 : decode cX5_addStack 7 = .ok (.if_icmp .le 13, 3) := by decide +kernel
theorem dX5_addStack_10 : decode cX5_addStack 10 = .ok (.new 41, 3) := by decide +kernel
theorem dX5_addStack_13 : decode cX5_addStack 13 = .ok (.dup, 1) := by decide +kernel
theorem dX5_addStack_14 : decode cX5_addStack 14 = .ok (.ldc 43, 2) := by decide +kernel
theorem dX5_addStack_16 : decode cX5_addStack 16 = .ok (.invokespecial 45, 3) := by decide +kernel
theorem dX5_addStack_19 : decode cX5_addStack 19 = .ok (.athrow, 1) := by decide +kernel
theorem dX5_addStack_20 : decode cX5_addStack 20 = .ok (.aload_n 0, 1) := by decide +kernel
theorem dX5_addStack_21 : decode cX5_addStack 21 = .ok (.getfield 21, 3) := by decide +kernel
theorem dX5_addStack_24 : decode cX5_addStack 24 = .ok (.invokevirtual 48, 3) := by decide +kernel
theorem dX5_addStack_27 : decode cX5_addStack 27 = .ok (.iconst 4, 1) := by decide +kernel
theorem dX5_addStack_28 : decode cX5_addStack 28 = .ok (.if_icmp .lt 13, 3) := by decide +kernel
theorem dX5_addStack_31 : decode cX5_addStack 31 = .ok (.new 52, 3) := by decide +kernel
theorem dX5_addStack_34 : decode cX5_addStack 34 = .ok (.dup, 1) := by decide +kernel
theorem dX5_addStack_35 : decode cX5_addStack 35 = .ok (.ldc 54, 2) := by decide +kernel
theorem dX5_addStack_37 : decode cX5_addStack 37 = .ok (.invokespecial 56, 3) := by decide +kernel
theorem dX5_addStack_40 : decode cX5_addStack 40 = .ok (.athrow, 1) := by decide +kernel
theorem dX5_addStack_41 : decode cX5_addStack 41 = .ok (.aload_n 0, 1) := by decide +kernel
theorem dX5_addStack_42 : decode cX5_addStack 42 = .ok (.getfield 21, 3) := by decide +kernel
theorem dX5_addStack_45 : decode cX5_addStack 45 = .ok (.iload_n 1, 1) := by decide +kernel
theorem dX5_addStack_46 : decode cX5_addStack 46 = .ok (.invokevirtual 57, 3) := by decide +kernel
theorem dX5_addStack_49 : decode cX5_addStack 49 = .ok (.ireturn, 1) := by decide +kernel
theorem dX5_addBox_0 : decode cX5_addBox 0 = .ok (.aload_n 0, 1) := by decide +kernel
theorem dX5_addBox_1 : decode cX5_addBox 1 = .ok (.iload_n 2, 1) := by decide +kernel
theorem dX5_addBox_2 : decode cX5_addBox 2 = .ok (.invokevirtual 61, 3) := by decide +kernel
theorem dX5_addBox_5 : decode cX5_addBox 5 = .ok (.iload_n 1, 1) := by decide +kernel
theorem dX5_addBox_6 : decode cX5_addBox 6 = .ok (.iconst 1, 1) := by decide +kernel
theorem dX5_addBox_7 : decode cX5_addBox 7 = .ok (.if_icmp .lt 9, 3) := by decide +kernel
theorem dX5_addBox_10 : decode cX5_addBox 10 = .ok (.iload_n 1, 1) := by decide +kernel
theorem dX5_addBox_11 : decode cX5_addBox 11 = .ok (.bipush 30, 2) := by decide +kernel
theorem dX5_addBox_13 : decode cX5_addBox 13 = .ok (.if_icmp .le 13, 3) := by decide +kernel
theorem dX5_addBox_16 : decode cX5_addBox 16 = .ok (.new 41, 3) := by decide +kernel
theorem dX5_addBox_19 : decode cX5_addBox 19 = .ok (.dup, 1) := by decide +kernel
theorem dX5_addBox_20 : decode cX5_addBox 20 = .ok (.ldc 65, 2) := by decide +kernel
theorem dX5_addBox_22 : decode cX5_addBox 22 = .ok (.invokespecial 45, 3) := by decide +kernel
theorem dX5_addBox_25 : decode cX5_addBox 25 = .ok (.athrow, 1) := by decide +kernel
theorem dX5_addBox_26 : decode cX5_addBox 26 = .ok (.aload_n 0, 1) := by decide +kernel
theorem dX5_addBox_27 : decode cX5_addBox 27 = .ok (.getfield 21, 3) := by decide +kernel
theorem dX5_addBox_30 : decode cX5_addBox 30 = .ok (.iload_n 2, 1) := by decide +kernel
theorem dX5_addBox_31 : decode cX5_addBox 31 = .ok (.invokevirtual 67, 3) := by decide +kernel
theorem dX5_addBox_34 : decode cX5_addBox 34 = .ok (.ifCond .ne 15, 3) := by decide +kernel
theorem dX5_addBox_37 : decode cX5_addBox 37 = .ok (.aload_n 0, 1) := by decide +kernel
theorem dX5_addBox_38 : decode cX5_addBox 38 = .ok (.getfield 21, 3) := by decide +kernel
theorem dX5_addBox_41 : decode cX5_addBox 41 = .ok (.iload_n 2, 1) := by decide +kernel
theorem dX5_addBox_42 : decode cX5_addBox 42 = .ok (.iload_n 1, 1) := by decide +kernel
theorem dX5_addBox_43 : decode cX5_addBox 43 = .ok (.invokevirtual 71, 3) := by decide +kernel
theorem dX5_addBox_46 : decode cX5_addBox 46 = .ok (.ifCond .ne 13, 3) := by decide +kernel
theorem dX5_addBox_49 : decode cX5_addBox 49 = .ok (.new 75, 3) := by decide +kernel
theorem dX5_addBox_52 : decode cX5_addBox 52 = .ok (.dup, 1) := by decide +kernel
theorem dX5_addBox_53 : decode cX5_addBox 53 = .ok (.ldc 77, 2) := by decide +kernel
theorem dX5_addBox_55 : decode cX5_addBox 55 = .ok (.invokespecial 79, 3) := by decide +kernel
theorem dX5_addBox_58 : decode cX5_addBox 58 = .ok (.athrow, 1) := by decide +kernel
theorem dX5_addBox_59 : decode cX5_addBox 59 = .ok (.aload_n 0, 1) := by decide +kernel
theorem dX5_addBox_60 : decode cX5_addBox 60 = .ok (.getfield 21, 3) := by decide +kernel
theorem dX5_addBox_63 : decode cX5_addBox 63 = .ok (.invokevirtual 80, 3) := by decide +kernel
theorem dX5_addBox_66 : decode cX5_addBox 66 = .ok (.bipush 8, 2) := by decide +kernel
theorem dX5_addBox_68 : decode cX5_addBox 68 = .ok (.if_icmp .ge 15, 3) := by decide +kernel
theorem dX5_addBox_71 : decode cX5_addBox 71 = .ok (.aload_n 0, 1) := by decide +kernel
theorem dX5_addBox_72 : decode cX5_addBox 72 = .ok (.getfield 15, 3) := by decide +kernel
theorem dX5_addBox_75 : decode cX5_addBox 75 = .ok (.invokevirtual 83, 3) := by decide +kernel
theorem dX5_addBox_78 : decode cX5_addBox 78 = .ok (.bipush 20, 2) := by decide +kernel
theorem dX5_addBox_80 : decode cX5_addBox 80 = .ok (.if_icmp .lt 13, 3) := by decide +kernel
theorem dX5_addBox_83 : decode cX5_addBox 83 = .ok (.new 52, 3) := by decide +kernel
theorem dX5_addBox_86 : decode cX5_addBox 86 = .ok (.dup, 1) := by decide +kernel
theorem dX5_addBox_87 : decode cX5_addBox 87 = .ok (.ldc 86, 2) := by decide +kernel
theorem dX5_addBox_89 : decode cX5_addBox 89 = .ok (.invokespecial 56, 3) := by decide +kernel
theorem dX5_addBox_92 : decode cX5_addBox 92 = .ok (.athrow, 1) := by decide +kernel
theorem dX5_addBox_93 : decode cX5_addBox 93 = .ok (.aload_n 0, 1) := by decide +kernel
theorem dX5_addBox_94 : decode cX5_addBox 94 = .ok (.getfield 15, 3) := by decide +kernel
theorem dX5_addBox_97 : decode cX5_addBox 97 = .ok (.iload_n 1, 1) := by decide +kernel
theorem dX5_addBox_98 : decode cX5_addBox 98 = .ok (.invokevirtual 88, 3) := by decide +kernel
theorem dX5_addBox_101 : decode cX5_addBox 101 = .ok (.istore_n 3, 1) := by decide +kernel
theorem dX5_addBox_102 : decode cX5_addBox 102 = .ok (.aload_n 0, 1) := by decide +kernel
theorem dX5_addBox_103 : decode cX5_addBox 103 = .ok (.getfield 21, 3) := by decide +kernel
theorem dX5_addBox_106 : decode cX5_addBox 106 = .ok (.iload_n 3, 1) := by decide +kernel
theorem dX5_addBox_107 : decode cX5_addBox 107 = .ok (.iload_n 2, 1) := by decide +kernel
theorem dX5_addBox_108 : decode cX5_addBox 108 = .ok (.invokevirtual 91, 3) := by decide +kernel
theorem dX5_addBox_111 : decode cX5_addBox 111 = .ok (.iload_n 3, 1) := by decide +kernel
theorem dX5_addBox_112 : decode cX5_addBox 112 = .ok (.ireturn, 1) := by decide +kernel
theorem dX5_boxes_0 : decode cX5_boxes 0 = .ok (.aload_n 0, 1) := by decide +kernel
theorem dX5_boxes_1 : decode cX5_boxes 1 = .ok (.getfield 21, 3) := by decide +kernel
theorem dX5_boxes_4 : decode cX5_boxes 4 = .ok (.invokevirtual 80, 3) := by decide +kernel
theorem dX5_boxes_7 : decode cX5_boxes 7 = .ok (.ireturn, 1) := by decide +kernel
theorem dX5_isInYard_0 : decode cX5_isInYard 0 = .ok (.aload_n 0, 1) := by decide +kernel
theorem dX5_isInYard_1 : decode cX5_isInYard 1 = .ok (.getfield 21, 3) := by decide +kernel
theorem dX5_isInYard_4 : decode cX5_isInYard 4 = .ok (.iload_n 1, 1) := by decide +kernel
theorem dX5_isInYard_5 : decode cX5_isInYard 5 = .ok (.invokevirtual 95, 3) := by decide +kernel
theorem dX5_isInYard_8 : decode cX5_isInYard 8 = .ok (.iconst (-1), 1) := by decide +kernel
theorem dX5_isInYard_9 : decode cX5_isInYard 9 = .ok (.if_icmp .eq 7, 3) := by decide +kernel
theorem dX5_isInYard_12 : decode cX5_isInYard 12 = .ok (.iconst 1, 1) := by decide +kernel
theorem dX5_isInYard_13 : decode cX5_isInYard 13 = .ok (.goto 4, 3) := by decide +kernel
theorem dX5_isInYard_16 : decode cX5_isInYard 16 = .ok (.iconst 0, 1) := by decide +kernel
theorem dX5_isInYard_17 : decode cX5_isInYard 17 = .ok (.ireturn, 1) := by decide +kernel
theorem dX5_weight_0 : decode cX5_weight 0 = .ok (.aload_n 0, 1) := by decide +kernel
theorem dX5_weight_1 : decode cX5_weight 1 = .ok (.iload_n 1, 1) := by decide +kernel
theorem dX5_weight_2 : decode cX5_weight 2 = .ok (.invokevirtual 98, 3) := by decide +kernel
theorem dX5_weight_5 : decode cX5_weight 5 = .ok (.aload_n 0, 1) := by decide +kernel
theorem dX5_weight_6 : decode cX5_weight 6 = .ok (.getfield 15, 3) := by decide +kernel
theorem dX5_weight_9 : decode cX5_weight 9 = .ok (.iload_n 1, 1) := by decide +kernel
theorem dX5_weight_10 : decode cX5_weight 10 = .ok (.invokevirtual 101, 3) := by decide +kernel
theorem dX5_weight_13 : decode cX5_weight 13 = .ok (.ireturn, 1) := by decide +kernel
theorem dX5_stackOf_0 : decode cX5_stackOf 0 = .ok (.aload_n 0, 1) := by decide +kernel
theorem dX5_stackOf_1 : decode cX5_stackOf 1 = .ok (.iload_n 1, 1) := by decide +kernel
theorem dX5_stackOf_2 : decode cX5_stackOf 2 = .ok (.invokevirtual 98, 3) := by decide +kernel
theorem dX5_stackOf_5 : decode cX5_stackOf 5 = .ok (.aload_n 0, 1) := by decide +kernel
theorem dX5_stackOf_6 : decode cX5_stackOf 6 = .ok (.getfield 21, 3) := by decide +kernel
theorem dX5_stackOf_9 : decode cX5_stackOf 9 = .ok (.iload_n 1, 1) := by decide +kernel
theorem dX5_stackOf_10 : decode cX5_stackOf 10 = .ok (.invokevirtual 95, 3) := by decide +kernel
theorem dX5_stackOf_13 : decode cX5_stackOf 13 = .ok (.ireturn, 1) := by decide +kernel
theorem dX5_level_0 : decode cX5_level 0 = .ok (.aload_n 0, 1) := by decide +kernel
theorem dX5_level_1 : decode cX5_level 1 = .ok (.iload_n 1, 1) := by decide +kernel
theorem dX5_level_2 : decode cX5_level 2 = .ok (.invokevirtual 98, 3) := by decide +kernel
theorem dX5_level_5 : decode cX5_level 5 = .ok (.aload_n 0, 1) := by decide +kernel
theorem dX5_level_6 : decode cX5_level 6 = .ok (.getfield 21, 3) := by decide +kernel
theorem dX5_level_9 : decode cX5_level 9 = .ok (.iload_n 1, 1) := by decide +kernel
theorem dX5_level_10 : decode cX5_level 10 = .ok (.invokevirtual 104, 3) := by decide +kernel
theorem dX5_level_13 : decode cX5_level 13 = .ok (.ireturn, 1) := by decide +kernel
theorem dX5_above_0 : decode cX5_above 0 = .ok (.aload_n 0, 1) := by decide +kernel
theorem dX5_above_1 : decode cX5_above 1 = .ok (.iload_n 1, 1) := by decide +kernel
theorem dX5_above_2 : decode cX5_above 2 = .ok (.invokevirtual 98, 3) := by decide +kernel
theorem dX5_above_5 : decode cX5_above 5 = .ok (.aload_n 0, 1) := by decide +kernel
theorem dX5_above_6 : decode cX5_above 6 = .ok (.getfield 21, 3) := by decide +kernel
theorem dX5_above_9 : decode cX5_above 9 = .ok (.iload_n 1, 1) := by decide +kernel
theorem dX5_above_10 : decode cX5_above 10 = .ok (.invokevirtual 107, 3) := by decide +kernel
theorem dX5_above_13 : decode cX5_above 13 = .ok (.ireturn, 1) := by decide +kernel
theorem dX5_height_0 : decode cX5_height 0 = .ok (.aload_n 0, 1) := by decide +kernel
theorem dX5_height_1 : decode cX5_height 1 = .ok (.iload_n 1, 1) := by decide +kernel
theorem dX5_height_2 : decode cX5_height 2 = .ok (.invokevirtual 61, 3) := by decide +kernel
theorem dX5_height_5 : decode cX5_height 5 = .ok (.aload_n 0, 1) := by decide +kernel
theorem dX5_height_6 : decode cX5_height 6 = .ok (.getfield 21, 3) := by decide +kernel
theorem dX5_height_9 : decode cX5_height 9 = .ok (.iload_n 1, 1) := by decide +kernel
theorem dX5_height_10 : decode cX5_height 10 = .ok (.invokevirtual 110, 3) := by decide +kernel
theorem dX5_height_13 : decode cX5_height 13 = .ok (.ireturn, 1) := by decide +kernel
theorem dX5_boxAt_0 : decode cX5_boxAt 0 = .ok (.aload_n 0, 1) := by decide +kernel
theorem dX5_boxAt_1 : decode cX5_boxAt 1 = .ok (.iload_n 1, 1) := by decide +kernel
theorem dX5_boxAt_2 : decode cX5_boxAt 2 = .ok (.invokevirtual 61, 3) := by decide +kernel
theorem dX5_boxAt_5 : decode cX5_boxAt 5 = .ok (.aload_n 0, 1) := by decide +kernel
theorem dX5_boxAt_6 : decode cX5_boxAt 6 = .ok (.getfield 21, 3) := by decide +kernel
theorem dX5_boxAt_9 : decode cX5_boxAt 9 = .ok (.iload_n 1, 1) := by decide +kernel
theorem dX5_boxAt_10 : decode cX5_boxAt 10 = .ok (.iload_n 2, 1) := by decide +kernel
theorem dX5_boxAt_11 : decode cX5_boxAt 11 = .ok (.invokevirtual 113, 3) := by decide +kernel
theorem dX5_boxAt_14 : decode cX5_boxAt 14 = .ok (.istore_n 3, 1) := by decide +kernel
theorem dX5_boxAt_15 : decode cX5_boxAt 15 = .ok (.iload_n 3, 1) := by decide +kernel
theorem dX5_boxAt_16 : decode cX5_boxAt 16 = .ok (.iconst (-1), 1) := by decide +kernel
theorem dX5_boxAt_17 : decode cX5_boxAt 17 = .ok (.if_icmp .ne 13, 3) := by decide +kernel
theorem dX5_boxAt_20 : decode cX5_boxAt 20 = .ok (.new 117, 3) := by decide +kernel
theorem dX5_boxAt_23 : decode cX5_boxAt 23 = .ok (.dup, 1) := by decide +kernel
theorem dX5_boxAt_24 : decode cX5_boxAt 24 = .ok (.ldc 119, 2) := by decide +kernel
theorem dX5_boxAt_26 : decode cX5_boxAt 26 = .ok (.invokespecial 121, 3) := by decide +kernel
theorem dX5_boxAt_29 : decode cX5_boxAt 29 = .ok (.athrow, 1) := by decide +kernel
theorem dX5_boxAt_30 : decode cX5_boxAt 30 = .ok (.iload_n 3, 1) := by decide +kernel
theorem dX5_boxAt_31 : decode cX5_boxAt 31 = .ok (.ireturn, 1) := by decide +kernel
theorem dX5_hold_0 : decode cX5_hold 0 = .ok (.aload_n 0, 1) := by decide +kernel
theorem dX5_hold_1 : decode cX5_hold 1 = .ok (.iload_n 1, 1) := by decide +kernel
theorem dX5_hold_2 : decode cX5_hold 2 = .ok (.invokevirtual 98, 3) := by decide +kernel
theorem dX5_hold_5 : decode cX5_hold 5 = .ok (.iload_n 2, 1) := by decide +kernel
theorem dX5_hold_6 : decode cX5_hold 6 = .ok (.bipush 112, 2) := by decide +kernel
theorem dX5_hold_8 : decode cX5_hold 8 = .ok (.if_icmp .eq 19, 3) := by decide +kernel
theorem dX5_hold_11 : decode cX5_hold 11 = .ok (.iload_n 2, 1) := by decide +kernel
theorem dX5_hold_12 : decode cX5_hold 12 = .ok (.bipush 108, 2) := by decide +kernel
theorem dX5_hold_14 : decode cX5_hold 14 = .ok (.if_icmp .eq 13, 3) := by decide +kernel
theorem dX5_hold_17 : decode cX5_hold 17 = .ok (.new 41, 3) := by decide +kernel
theorem dX5_hold_20 : decode cX5_hold 20 = .ok (.dup, 1) := by decide +kernel
theorem dX5_hold_21 : decode cX5_hold 21 = .ok (.ldc 122, 2) := by decide +kernel
theorem dX5_hold_23 : decode cX5_hold 23 = .ok (.invokespecial 45, 3) := by decide +kernel
theorem dX5_hold_26 : decode cX5_hold 26 = .ok (.athrow, 1) := by decide +kernel
theorem dX5_hold_27 : decode cX5_hold 27 = .ok (.iload_n 3, 1) := by decide +kernel
theorem dX5_hold_28 : decode cX5_hold 28 = .ok (.aload_n 0, 1) := by decide +kernel
theorem dX5_hold_29 : decode cX5_hold 29 = .ok (.getfield 124, 3) := by decide +kernel
theorem dX5_hold_32 : decode cX5_hold 32 = .ok (.if_icmp .le 10, 3) := by decide +kernel
theorem dX5_hold_35 : decode cX5_hold 35 = .ok (.iload_n 3, 1) := by decide +kernel
theorem dX5_hold_36 : decode cX5_hold 36 = .ok (.sipush 1000, 3) := by decide +kernel
theorem dX5_hold_39 : decode cX5_hold 39 = .ok (.if_icmp .le 13, 3) := by decide +kernel
theorem dX5_hold_42 : decode cX5_hold 42 = .ok (.new 41, 3) := by decide +kernel
theorem dX5_hold_45 : decode cX5_hold 45 = .ok (.dup, 1) := by decide +kernel
theorem dX5_hold_46 : decode cX5_hold 46 = .ok (.ldc 128, 2) := by decide +kernel
theorem dX5_hold_48 : decode cX5_hold 48 = .ok (.invokespecial 45, 3) := by decide +kernel
theorem dX5_hold_51 : decode cX5_hold 51 = .ok (.athrow, 1) := by decide +kernel
theorem dX5_hold_52 : decode cX5_hold 52 = .ok (.aload_n 0, 1) := by decide +kernel
theorem dX5_hold_53 : decode cX5_hold 53 = .ok (.getfield 15, 3) := by decide +kernel
theorem dX5_hold_56 : decode cX5_hold 56 = .ok (.iload_n 1, 1) := by decide +kernel
theorem dX5_hold_57 : decode cX5_hold 57 = .ok (.iload_n 2, 1) := by decide +kernel
theorem dX5_hold_58 : decode cX5_hold 58 = .ok (.iload_n 3, 1) := by decide +kernel
theorem dX5_hold_59 : decode cX5_hold 59 = .ok (.invokevirtual 130, 3) := by decide +kernel
theorem dX5_hold_62 : decode cX5_hold 62 = .ok (.aload_n 0, 1) := by decide +kernel
theorem dX5_hold_63 : decode cX5_hold 63 = .ok (.iload_n 1, 1) := by decide +kernel
theorem dX5_hold_64 : decode cX5_hold 64 = .ok (.invokevirtual 134, 3) := by decide +kernel
theorem dX5_hold_67 : decode cX5_hold 67 = .ok (.ifCond .eq 7, 3) := by decide +kernel
theorem dX5_hold_70 : decode cX5_hold 70 = .ok (.iconst 1, 1) := by decide +kernel
theorem dX5_hold_71 : decode cX5_hold 71 = .ok (.goto 4, 3) := by decide +kernel
theorem dX5_hold_74 : decode cX5_hold 74 = .ok (.iconst 0, 1) := by decide +kernel
theorem dX5_hold_75 : decode cX5_hold 75 = .ok (.ireturn, 1) := by decide +kernel
theorem dX5_release_0 : decode cX5_release 0 = .ok (.aload_n 0, 1) := by decide +kernel
theorem dX5_release_1 : decode cX5_release 1 = .ok (.iload_n 1, 1) := by decide +kernel
theorem dX5_release_2 : decode cX5_release 2 = .ok (.invokevirtual 98, 3) := by decide +kernel
theorem dX5_release_5 : decode cX5_release 5 = .ok (.aload_n 0, 1) := by decide +kernel
theorem dX5_release_6 : decode cX5_release 6 = .ok (.getfield 15, 3) := by decide +kernel
theorem dX5_release_9 : decode cX5_release 9 = .ok (.iload_n 1, 1) := by decide +kernel
theorem dX5_release_10 : decode cX5_release 10 = .ok (.invokevirtual 137, 3) := by decide +kernel
theorem dX5_release_13 : decode cX5_release 13 = .ok (.ifCond .ne 13, 3) := by decide +kernel
theorem dX5_release_16 : decode cX5_release 16 = .ok (.new 52, 3) := by decide +kernel
theorem dX5_release_19 : decode cX5_release 19 = .ok (.dup, 1) := by decide +kernel
theorem dX5_release_20 : decode cX5_release 20 = .ok (.ldc 140, 2) := by decide +kernel
theorem dX5_release_22 : decode cX5_release 22 = .ok (.invokespecial 56, 3) := by decide +kernel
theorem dX5_release_25 : decode cX5_release 25 = .ok (.athrow, 1) := by decide +kernel
theorem dX5_release_26 : decode cX5_release 26 = .ok (.aload_n 0, 1) := by decide +kernel
theorem dX5_release_27 : decode cX5_release 27 = .ok (.getfield 15, 3) := by decide +kernel
theorem dX5_release_30 : decode cX5_release 30 = .ok (.iload_n 1, 1) := by decide +kernel
theorem dX5_release_31 : decode cX5_release 31 = .ok (.invokevirtual 142, 3) := by decide +kernel
theorem dX5_release_34 : decode cX5_release 34 = .ok (.istore_n 2, 1) := by decide +kernel
theorem dX5_release_35 : decode cX5_release 35 = .ok (.aload_n 0, 1) := by decide +kernel
theorem dX5_release_36 : decode cX5_release 36 = .ok (.getfield 15, 3) := by decide +kernel
theorem dX5_release_39 : decode cX5_release 39 = .ok (.iload_n 1, 1) := by decide +kernel
theorem dX5_release_40 : decode cX5_release 40 = .ok (.invokevirtual 145, 3) := by decide +kernel
theorem dX5_release_43 : decode cX5_release 43 = .ok (.iload_n 2, 1) := by decide +kernel
theorem dX5_release_44 : decode cX5_release 44 = .ok (.ireturn, 1) := by decide +kernel
theorem dX5_holdOf_0 : decode cX5_holdOf 0 = .ok (.aload_n 0, 1) := by decide +kernel
theorem dX5_holdOf_1 : decode cX5_holdOf 1 = .ok (.iload_n 1, 1) := by decide +kernel
theorem dX5_holdOf_2 : decode cX5_holdOf 2 = .ok (.invokevirtual 98, 3) := by decide +kernel
theorem dX5_holdOf_5 : decode cX5_holdOf 5 = .ok (.aload_n 0, 1) := by decide +kernel
theorem dX5_holdOf_6 : decode cX5_holdOf 6 = .ok (.getfield 15, 3) := by decide +kernel
theorem dX5_holdOf_9 : decode cX5_holdOf 9 = .ok (.iload_n 1, 1) := by decide +kernel
theorem dX5_holdOf_10 : decode cX5_holdOf 10 = .ok (.invokevirtual 148, 3) := by decide +kernel
theorem dX5_holdOf_13 : decode cX5_holdOf 13 = .ok (.ireturn, 1) := by decide +kernel
theorem dX5_heldUntil_0 : decode cX5_heldUntil 0 = .ok (.aload_n 0, 1) := by decide +kernel
theorem dX5_heldUntil_1 : decode cX5_heldUntil 1 = .ok (.iload_n 1, 1) := by decide +kernel
theorem dX5_heldUntil_2 : decode cX5_heldUntil 2 = .ok (.invokevirtual 98, 3) := by decide +kernel
theorem dX5_heldUntil_5 : decode cX5_heldUntil 5 = .ok (.aload_n 0, 1) := by decide +kernel
theorem dX5_heldUntil_6 : decode cX5_heldUntil 6 = .ok (.getfield 15, 3) := by decide +kernel
theorem dX5_heldUntil_9 : decode cX5_heldUntil 9 = .ok (.iload_n 1, 1) := by decide +kernel
theorem dX5_heldUntil_10 : decode cX5_heldUntil 10 = .ok (.invokevirtual 137, 3) := by decide +kernel
theorem dX5_heldUntil_13 : decode cX5_heldUntil 13 = .ok (.ifCond .ne 13, 3) := by decide +kernel
theorem dX5_heldUntil_16 : decode cX5_heldUntil 16 = .ok (.new 117, 3) := by decide +kernel
theorem dX5_heldUntil_19 : decode cX5_heldUntil 19 = .ok (.dup, 1) := by decide +kernel
theorem dX5_heldUntil_20 : decode cX5_heldUntil 20 = .ok (.ldc 140, 2) := by decide +kernel
theorem dX5_heldUntil_22 : decode cX5_heldUntil 22 = .ok (.invokespecial 121, 3) := by decide +kernel
theorem dX5_heldUntil_25 : decode cX5_heldUntil 25 = .ok (.athrow, 1) := by decide +kernel
theorem dX5_heldUntil_26 : decode cX5_heldUntil 26 = .ok (.aload_n 0, 1) := by decide +kernel
theorem dX5_heldUntil_27 : decode cX5_heldUntil 27 = .ok (.getfield 15, 3) := by decide +kernel
theorem dX5_heldUntil_30 : decode cX5_heldUntil 30 = .ok (.iload_n 1, 1) := by decide +kernel
theorem dX5_heldUntil_31 : decode cX5_heldUntil 31 = .ok (.invokevirtual 142, 3) := by decide +kernel
theorem dX5_heldUntil_34 : decode cX5_heldUntil 34 = .ok (.ireturn, 1) := by decide +kernel
theorem dX5_pinnedAbove_0 : decode cX5_pinnedAbove 0 = .ok (.aload_n 0, 1) := by decide +kernel
theorem dX5_pinnedAbove_1 : decode cX5_pinnedAbove 1 = .ok (.iload_n 1, 1) := by decide +kernel
theorem dX5_pinnedAbove_2 : decode cX5_pinnedAbove 2 = .ok (.invokevirtual 98, 3) := by decide +kernel
theorem dX5_pinnedAbove_5 : decode cX5_pinnedAbove 5 = .ok (.aload_n 0, 1) := by decide +kernel
theorem dX5_pinnedAbove_6 : decode cX5_pinnedAbove 6 = .ok (.getfield 21, 3) := by decide +kernel
theorem dX5_pinnedAbove_9 : decode cX5_pinnedAbove 9 = .ok (.iload_n 1, 1) := by decide +kernel
theorem dX5_pinnedAbove_10 : decode cX5_pinnedAbove 10 = .ok (.invokevirtual 152, 3) := by decide +kernel
theorem dX5_pinnedAbove_13 : decode cX5_pinnedAbove 13 = .ok (.ireturn, 1) := by decide +kernel
theorem dX5_why_0 : decode cX5_why 0 = .ok (.aload_n 0, 1) := by decide +kernel
theorem dX5_why_1 : decode cX5_why 1 = .ok (.iload_n 1, 1) := by decide +kernel
theorem dX5_why_2 : decode cX5_why 2 = .ok (.invokevirtual 98, 3) := by decide +kernel
theorem dX5_why_5 : decode cX5_why 5 = .ok (.aload_n 0, 1) := by decide +kernel
theorem dX5_why_6 : decode cX5_why 6 = .ok (.iload_n 2, 1) := by decide +kernel
theorem dX5_why_7 : decode cX5_why 7 = .ok (.invokevirtual 61, 3) := by decide +kernel
theorem dX5_why_10 : decode cX5_why 10 = .ok (.aload_n 0, 1) := by decide +kernel
theorem dX5_why_11 : decode cX5_why 11 = .ok (.getfield 21, 3) := by decide +kernel
theorem dX5_why_14 : decode cX5_why 14 = .ok (.iload_n 1, 1) := by decide +kernel
theorem dX5_why_15 : decode cX5_why 15 = .ok (.iload_n 2, 1) := by decide +kernel
theorem dX5_why_16 : decode cX5_why 16 = .ok (.invokevirtual 155, 3) := by decide +kernel
theorem dX5_why_19 : decode cX5_why 19 = .ok (.ireturn, 1) := by decide +kernel
theorem dX5_move_0 : decode cX5_move 0 = .ok (.aload_n 0, 1) := by decide +kernel
theorem dX5_move_1 : decode cX5_move 1 = .ok (.iload_n 1, 1) := by decide +kernel
theorem dX5_move_2 : decode cX5_move 2 = .ok (.invokevirtual 98, 3) := by decide +kernel
theorem dX5_move_5 : decode cX5_move 5 = .ok (.aload_n 0, 1) := by decide +kernel
theorem dX5_move_6 : decode cX5_move 6 = .ok (.iload_n 2, 1) := by decide +kernel
theorem dX5_move_7 : decode cX5_move 7 = .ok (.invokevirtual 61, 3) := by decide +kernel
theorem dX5_move_10 : decode cX5_move 10 = .ok (.aload_n 0, 1) := by decide +kernel
theorem dX5_move_11 : decode cX5_move 11 = .ok (.getfield 21, 3) := by decide +kernel
theorem dX5_move_14 : decode cX5_move 14 = .ok (.iload_n 1, 1) := by decide +kernel
theorem dX5_move_15 : decode cX5_move 15 = .ok (.iload_n 2, 1) := by decide +kernel
theorem dX5_move_16 : decode cX5_move 16 = .ok (.invokevirtual 155, 3) := by decide +kernel
theorem dX5_move_19 : decode cX5_move 19 = .ok (.bipush 45, 2) := by decide +kernel
theorem dX5_move_21 : decode cX5_move 21 = .ok (.if_icmp .eq 13, 3) := by decide +kernel
theorem dX5_move_24 : decode cX5_move 24 = .ok (.new 75, 3) := by decide +kernel
theorem dX5_move_27 : decode cX5_move 27 = .ok (.dup, 1) := by decide +kernel
theorem dX5_move_28 : decode cX5_move 28 = .ok (.ldc 159, 2) := by decide +kernel
theorem dX5_move_30 : decode cX5_move 30 = .ok (.invokespecial 79, 3) := by decide +kernel
theorem dX5_move_33 : decode cX5_move 33 = .ok (.athrow, 1) := by decide +kernel
theorem dX5_move_34 : decode cX5_move 34 = .ok (.aload_n 0, 1) := by decide +kernel
theorem dX5_move_35 : decode cX5_move 35 = .ok (.iload_n 1, 1) := by decide +kernel
theorem dX5_move_36 : decode cX5_move 36 = .ok (.iload_n 2, 1) := by decide +kernel
theorem dX5_move_37 : decode cX5_move 37 = .ok (.invokevirtual 161, 3) := by decide +kernel
theorem dX5_move_40 : decode cX5_move 40 = .ok (.aload_n 0, 1) := by decide +kernel
theorem dX5_move_41 : decode cX5_move 41 = .ok (.getfield 164, 3) := by decide +kernel
theorem dX5_move_44 : decode cX5_move 44 = .ok (.ireturn, 1) := by decide +kernel
theorem dX5_planLength_0 : decode cX5_planLength 0 = .ok (.aload_n 0, 1) := by decide +kernel
theorem dX5_planLength_1 : decode cX5_planLength 1 = .ok (.iload_n 1, 1) := by decide +kernel
theorem dX5_planLength_2 : decode cX5_planLength 2 = .ok (.invokevirtual 167, 3) := by decide +kernel
theorem dX5_planLength_5 : decode cX5_planLength 5 = .ok (.aload_n 0, 1) := by decide +kernel
theorem dX5_planLength_6 : decode cX5_planLength 6 = .ok (.getfield 30, 3) := by decide +kernel
theorem dX5_planLength_9 : decode cX5_planLength 9 = .ok (.invokevirtual 170, 3) := by decide +kernel
theorem dX5_planLength_12 : decode cX5_planLength 12 = .ok (.ireturn, 1) := by decide +kernel
theorem dX5_planByTrying_0 : decode cX5_planByTrying 0 = .ok (.aload_n 0, 1) := by decide +kernel
theorem dX5_planByTrying_1 : decode cX5_planByTrying 1 = .ok (.iload_n 1, 1) := by decide +kernel
theorem dX5_planByTrying_2 : decode cX5_planByTrying 2 = .ok (.invokevirtual 98, 3) := by decide +kernel
theorem dX5_planByTrying_5 : decode cX5_planByTrying 5 = .ok (.aload_n 0, 1) := by decide +kernel
theorem dX5_planByTrying_6 : decode cX5_planByTrying 6 = .ok (.getfield 30, 3) := by decide +kernel
theorem dX5_planByTrying_9 : decode cX5_planByTrying 9 = .ok (.iload_n 1, 1) := by decide +kernel
theorem dX5_planByTrying_10 : decode cX5_planByTrying 10 = .ok (.invokevirtual 173, 3) := by decide +kernel
theorem dX5_planByTrying_13 : decode cX5_planByTrying 13 = .ok (.istore_n 2, 1) := by decide +kernel
theorem dX5_planByTrying_14 : decode cX5_planByTrying 14 = .ok (.iload_n 2, 1) := by decide +kernel
theorem dX5_planByTrying_15 : decode cX5_planByTrying 15 = .ok (.iconst (-1), 1) := by decide +kernel
theorem dX5_planByTrying_16 : decode cX5_planByTrying 16 = .ok (.if_icmp .ne 13, 3) := by decide +kernel
theorem dX5_planByTrying_19 : decode cX5_planByTrying 19 = .ok (.new 117, 3) := by decide +kernel
theorem dX5_planByTrying_22 : decode cX5_planByTrying 22 = .ok (.dup, 1) := by decide +kernel
theorem dX5_planByTrying_23 : decode cX5_planByTrying 23 = .ok (.ldc 176, 2) := by decide +kernel
theorem dX5_planByTrying_25 : decode cX5_planByTrying 25 = .ok (.invokespecial 121, 3) := by decide +kernel
theorem dX5_planByTrying_28 : decode cX5_planByTrying 28 = .ok (.athrow, 1) := by decide +kernel
theorem dX5_planByTrying_29 : decode cX5_planByTrying 29 = .ok (.iload_n 2, 1) := by decide +kernel
theorem dX5_planByTrying_30 : decode cX5_planByTrying 30 = .ok (.ireturn, 1) := by decide +kernel
theorem dX5_planBox_0 : decode cX5_planBox 0 = .ok (.aload_n 0, 1) := by decide +kernel
theorem dX5_planBox_1 : decode cX5_planBox 1 = .ok (.iload_n 1, 1) := by decide +kernel
theorem dX5_planBox_2 : decode cX5_planBox 2 = .ok (.invokevirtual 167, 3) := by decide +kernel
theorem dX5_planBox_5 : decode cX5_planBox 5 = .ok (.aload_n 0, 1) := by decide +kernel
theorem dX5_planBox_6 : decode cX5_planBox 6 = .ok (.iload_n 2, 1) := by decide +kernel
theorem dX5_planBox_7 : decode cX5_planBox 7 = .ok (.invokevirtual 178, 3) := by decide +kernel
theorem dX5_planBox_10 : decode cX5_planBox 10 = .ok (.aload_n 0, 1) := by decide +kernel
theorem dX5_planBox_11 : decode cX5_planBox 11 = .ok (.getfield 30, 3) := by decide +kernel
theorem dX5_planBox_14 : decode cX5_planBox 14 = .ok (.iload_n 2, 1) := by decide +kernel
theorem dX5_planBox_15 : decode cX5_planBox 15 = .ok (.invokevirtual 181, 3) := by decide +kernel
theorem dX5_planBox_18 : decode cX5_planBox 18 = .ok (.ireturn, 1) := by decide +kernel
theorem dX5_planStack_0 : decode cX5_planStack 0 = .ok (.aload_n 0, 1) := by decide +kernel
theorem dX5_planStack_1 : decode cX5_planStack 1 = .ok (.iload_n 1, 1) := by decide +kernel
theorem dX5_planStack_2 : decode cX5_planStack 2 = .ok (.invokevirtual 167, 3) := by decide +kernel
theorem dX5_planStack_5 : decode cX5_planStack 5 = .ok (.aload_n 0, 1) := by decide +kernel
theorem dX5_planStack_6 : decode cX5_planStack 6 = .ok (.iload_n 2, 1) := by decide +kernel
theorem dX5_planStack_7 : decode cX5_planStack 7 = .ok (.invokevirtual 178, 3) := by decide +kernel
theorem dX5_planStack_10 : decode cX5_planStack 10 = .ok (.aload_n 0, 1) := by decide +kernel
theorem dX5_planStack_11 : decode cX5_planStack 11 = .ok (.getfield 30, 3) := by decide +kernel
theorem dX5_planStack_14 : decode cX5_planStack 14 = .ok (.iload_n 2, 1) := by decide +kernel
theorem dX5_planStack_15 : decode cX5_planStack 15 = .ok (.invokevirtual 184, 3) := by decide +kernel
theorem dX5_planStack_18 : decode cX5_planStack 18 = .ok (.ireturn, 1) := by decide +kernel
theorem dX5_dig_0 : decode cX5_dig 0 = .ok (.aload_n 0, 1) := by decide +kernel
theorem dX5_dig_1 : decode cX5_dig 1 = .ok (.iload_n 1, 1) := by decide +kernel
theorem dX5_dig_2 : decode cX5_dig 2 = .ok (.invokevirtual 167, 3) := by decide +kernel
theorem dX5_dig_5 : decode cX5_dig 5 = .ok (.aload_n 0, 1) := by decide +kernel
theorem dX5_dig_6 : decode cX5_dig 6 = .ok (.invokevirtual 187, 3) := by decide +kernel
theorem dX5_dig_9 : decode cX5_dig 9 = .ok (.aload_n 0, 1) := by decide +kernel
theorem dX5_dig_10 : decode cX5_dig 10 = .ok (.getfield 30, 3) := by decide +kernel
theorem dX5_dig_13 : decode cX5_dig 13 = .ok (.invokevirtual 170, 3) := by decide +kernel
theorem dX5_dig_16 : decode cX5_dig 16 = .ok (.ireturn, 1) := by decide +kernel
theorem dX5_moves_0 : decode cX5_moves 0 = .ok (.aload_n 0, 1) := by decide +kernel
theorem dX5_moves_1 : decode cX5_moves 1 = .ok (.getfield 164, 3) := by decide +kernel
theorem dX5_moves_4 : decode cX5_moves 4 = .ok (.ireturn, 1) := by decide +kernel
theorem dX5_book_0 : decode cX5_book 0 = .ok (.aload_n 0, 1) := by decide +kernel
theorem dX5_book_1 : decode cX5_book 1 = .ok (.iload_n 1, 1) := by decide +kernel
theorem dX5_book_2 : decode cX5_book 2 = .ok (.invokevirtual 98, 3) := by decide +kernel
theorem dX5_book_5 : decode cX5_book 5 = .ok (.aload_n 0, 1) := by decide +kernel
theorem dX5_book_6 : decode cX5_book 6 = .ok (.iload_n 3, 1) := by decide +kernel
theorem dX5_book_7 : decode cX5_book 7 = .ok (.invokevirtual 190, 3) := by decide +kernel
theorem dX5_book_10 : decode cX5_book 10 = .ok (.iload_n 2, 1) := by decide +kernel
theorem dX5_book_11 : decode cX5_book 11 = .ok (.aload_n 0, 1) := by decide +kernel
theorem dX5_book_12 : decode cX5_book 12 = .ok (.getfield 124, 3) := by decide +kernel
theorem dX5_book_15 : decode cX5_book 15 = .ok (.if_icmp .le 10, 3) := by decide +kernel
theorem dX5_book_18 : decode cX5_book 18 = .ok (.iload_n 2, 1) := by decide +kernel
theorem dX5_book_19 : decode cX5_book 19 = .ok (.sipush 999, 3) := by decide +kernel
theorem dX5_book_22 : decode cX5_book 22 = .ok (.if_icmp .le 13, 3) := by decide +kernel
theorem dX5_book_25 : decode cX5_book 25 = .ok (.new 41, 3) := by decide +kernel
theorem dX5_book_28 : decode cX5_book 28 = .ok (.dup, 1) := by decide +kernel
theorem dX5_book_29 : decode cX5_book 29 = .ok (.ldc 193, 2) := by decide +kernel
theorem dX5_book_31 : decode cX5_book 31 = .ok (.invokespecial 45, 3) := by decide +kernel
theorem dX5_book_34 : decode cX5_book 34 = .ok (.athrow, 1) := by decide +kernel
theorem dX5_book_35 : decode cX5_book 35 = .ok (.aload_n 0, 1) := by decide +kernel
theorem dX5_book_36 : decode cX5_book 36 = .ok (.getfield 15, 3) := by decide +kernel
theorem dX5_book_39 : decode cX5_book 39 = .ok (.iload_n 1, 1) := by decide +kernel
theorem dX5_book_40 : decode cX5_book 40 = .ok (.iload_n 2, 1) := by decide +kernel
theorem dX5_book_41 : decode cX5_book 41 = .ok (.invokevirtual 195, 3) := by decide +kernel
theorem dX5_book_44 : decode cX5_book 44 = .ok (.ifCond .eq 13, 3) := by decide +kernel
theorem dX5_book_47 : decode cX5_book 47 = .ok (.new 75, 3) := by decide +kernel
theorem dX5_book_50 : decode cX5_book 50 = .ok (.dup, 1) := by decide +kernel
theorem dX5_book_51 : decode cX5_book 51 = .ok (.ldc 198, 2) := by decide +kernel
theorem dX5_book_53 : decode cX5_book 53 = .ok (.invokespecial 79, 3) := by decide +kernel
theorem dX5_book_56 : decode cX5_book 56 = .ok (.athrow, 1) := by decide +kernel
theorem dX5_book_57 : decode cX5_book 57 = .ok (.aload_n 0, 1) := by decide +kernel
theorem dX5_book_58 : decode cX5_book 58 = .ok (.getfield 37, 3) := by decide +kernel
theorem dX5_book_61 : decode cX5_book 61 = .ok (.iload_n 1, 1) := by decide +kernel
theorem dX5_book_62 : decode cX5_book 62 = .ok (.invokevirtual 200, 3) := by decide +kernel
theorem dX5_book_65 : decode cX5_book 65 = .ok (.iconst (-1), 1) := by decide +kernel
theorem dX5_book_66 : decode cX5_book 66 = .ok (.if_icmp .ne 16, 3) := by decide +kernel
theorem dX5_book_69 : decode cX5_book 69 = .ok (.aload_n 0, 1) := by decide +kernel
theorem dX5_book_70 : decode cX5_book 70 = .ok (.getfield 37, 3) := by decide +kernel
theorem dX5_book_73 : decode cX5_book 73 = .ok (.iload_n 3, 1) := by decide +kernel
theorem dX5_book_74 : decode cX5_book 74 = .ok (.iload_n 2, 1) := by decide +kernel
theorem dX5_book_75 : decode cX5_book 75 = .ok (.invokevirtual 203, 3) := by decide +kernel
theorem dX5_book_78 : decode cX5_book 78 = .ok (.iconst (-1), 1) := by decide +kernel
theorem dX5_book_79 : decode cX5_book 79 = .ok (.if_icmp .eq 13, 3) := by decide +kernel
theorem dX5_book_82 : decode cX5_book 82 = .ok (.new 52, 3) := by decide +kernel
theorem dX5_book_85 : decode cX5_book 85 = .ok (.dup, 1) := by decide +kernel
theorem dX5_book_86 : decode cX5_book 86 = .ok (.ldc 206, 2) := by decide +kernel
theorem dX5_book_88 : decode cX5_book 88 = .ok (.invokespecial 56, 3) := by decide +kernel
theorem dX5_book_91 : decode cX5_book 91 = .ok (.athrow, 1) := by decide +kernel
theorem dX5_book_92 : decode cX5_book 92 = .ok (.aload_n 0, 1) := by decide +kernel
theorem dX5_book_93 : decode cX5_book 93 = .ok (.getfield 37, 3) := by decide +kernel
theorem dX5_book_96 : decode cX5_book 96 = .ok (.invokevirtual 208, 3) := by decide +kernel
theorem dX5_book_99 : decode cX5_book 99 = .ok (.bipush 30, 2) := by decide +kernel
theorem dX5_book_101 : decode cX5_book 101 = .ok (.if_icmp .lt 13, 3) := by decide +kernel
theorem dX5_book_104 : decode cX5_book 104 = .ok (.new 52, 3) := by decide +kernel
theorem dX5_book_107 : decode cX5_book 107 = .ok (.dup, 1) := by decide +kernel
theorem dX5_book_108 : decode cX5_book 108 = .ok (.ldc 211, 2) := by decide +kernel
theorem dX5_book_110 : decode cX5_book 110 = .ok (.invokespecial 56, 3) := by decide +kernel
theorem dX5_book_113 : decode cX5_book 113 = .ok (.athrow, 1) := by decide +kernel
theorem dX5_book_114 : decode cX5_book 114 = .ok (.aload_n 0, 1) := by decide +kernel
theorem dX5_book_115 : decode cX5_book 115 = .ok (.getfield 37, 3) := by decide +kernel
theorem dX5_book_118 : decode cX5_book 118 = .ok (.iload_n 1, 1) := by decide +kernel
theorem dX5_book_119 : decode cX5_book 119 = .ok (.iload_n 2, 1) := by decide +kernel
theorem dX5_book_120 : decode cX5_book 120 = .ok (.iload_n 3, 1) := by decide +kernel
theorem dX5_book_121 : decode cX5_book 121 = .ok (.invokevirtual 213, 3) := by decide +kernel
theorem dX5_book_124 : decode cX5_book 124 = .ok (.ireturn, 1) := by decide +kernel
theorem dX5_cancel_0 : decode cX5_cancel 0 = .ok (.aload_n 0, 1) := by decide +kernel
theorem dX5_cancel_1 : decode cX5_cancel 1 = .ok (.iload_n 1, 1) := by decide +kernel
theorem dX5_cancel_2 : decode cX5_cancel 2 = .ok (.invokevirtual 216, 3) := by decide +kernel
theorem dX5_cancel_5 : decode cX5_cancel 5 = .ok (.aload_n 0, 1) := by decide +kernel
theorem dX5_cancel_6 : decode cX5_cancel 6 = .ok (.getfield 37, 3) := by decide +kernel
theorem dX5_cancel_9 : decode cX5_cancel 9 = .ok (.iload_n 1, 1) := by decide +kernel
theorem dX5_cancel_10 : decode cX5_cancel 10 = .ok (.invokevirtual 219, 3) := by decide +kernel
theorem dX5_cancel_13 : decode cX5_cancel 13 = .ok (.bipush 98, 2) := by decide +kernel
theorem dX5_cancel_15 : decode cX5_cancel 15 = .ok (.if_icmp .eq 13, 3) := by decide +kernel
theorem dX5_cancel_18 : decode cX5_cancel 18 = .ok (.new 52, 3) := by decide +kernel
theorem dX5_cancel_21 : decode cX5_cancel 21 = .ok (.dup, 1) := by decide +kernel
theorem dX5_cancel_22 : decode cX5_cancel 22 = .ok (.ldc 222, 2) := by decide +kernel
theorem dX5_cancel_24 : decode cX5_cancel 24 = .ok (.invokespecial 56, 3) := by decide +kernel
theorem dX5_cancel_27 : decode cX5_cancel 27 = .ok (.athrow, 1) := by decide +kernel
theorem dX5_cancel_28 : decode cX5_cancel 28 = .ok (.aload_n 0, 1) := by decide +kernel
theorem dX5_cancel_29 : decode cX5_cancel 29 = .ok (.getfield 37, 3) := by decide +kernel
theorem dX5_cancel_32 : decode cX5_cancel 32 = .ok (.iload_n 1, 1) := by decide +kernel
theorem dX5_cancel_33 : decode cX5_cancel 33 = .ok (.bipush 99, 2) := by decide +kernel
theorem dX5_cancel_35 : decode cX5_cancel 35 = .ok (.invokevirtual 224, 3) := by decide +kernel
theorem dX5_cancel_38 : decode cX5_cancel 38 = .ok (.aload_n 0, 1) := by decide +kernel
theorem dX5_cancel_39 : decode cX5_cancel 39 = .ok (.getfield 37, 3) := by decide +kernel
theorem dX5_cancel_42 : decode cX5_cancel 42 = .ok (.bipush 98, 2) := by decide +kernel
theorem dX5_cancel_44 : decode cX5_cancel 44 = .ok (.invokevirtual 228, 3) := by decide +kernel
theorem dX5_cancel_47 : decode cX5_cancel 47 = .ok (.ireturn, 1) := by decide +kernel
theorem dX5_stateOf_0 : decode cX5_stateOf 0 = .ok (.aload_n 0, 1) := by decide +kernel
theorem dX5_stateOf_1 : decode cX5_stateOf 1 = .ok (.iload_n 1, 1) := by decide +kernel
theorem dX5_stateOf_2 : decode cX5_stateOf 2 = .ok (.invokevirtual 216, 3) := by decide +kernel
theorem dX5_stateOf_5 : decode cX5_stateOf 5 = .ok (.aload_n 0, 1) := by decide +kernel
theorem dX5_stateOf_6 : decode cX5_stateOf 6 = .ok (.getfield 37, 3) := by decide +kernel
theorem dX5_stateOf_9 : decode cX5_stateOf 9 = .ok (.iload_n 1, 1) := by decide +kernel
theorem dX5_stateOf_10 : decode cX5_stateOf 10 = .ok (.invokevirtual 219, 3) := by decide +kernel
theorem dX5_stateOf_13 : decode cX5_stateOf 13 = .ok (.ireturn, 1) := by decide +kernel
theorem dX5_appointmentOf_0 : decode cX5_appointmentOf 0 = .ok (.aload_n 0, 1) := by decide +kernel
theorem dX5_appointmentOf_1 : decode cX5_appointmentOf 1 = .ok (.iload_n 1, 1) := by decide +kernel
theorem dX5_appointmentOf_2 : decode cX5_appointmentOf 2 = .ok (.invokevirtual 98, 3) := by decide +kernel
theorem dX5_appointmentOf_5 : decode cX5_appointmentOf 5 = .ok (.aload_n 0, 1) := by decide +kernel
theorem dX5_appointmentOf_6 : decode cX5_appointmentOf 6 = .ok (.getfield 37, 3) := by decide +kernel
theorem dX5_appointmentOf_9 : decode cX5_appointmentOf 9 = .ok (.iload_n 1, 1) := by decide +kernel
theorem dX5_appointmentOf_10 : decode cX5_appointmentOf 10 = .ok (.invokevirtual 200, 3) := by decide +kernel
theorem dX5_appointmentOf_13 : decode cX5_appointmentOf 13 = .ok (.istore_n 2, 1) := by decide +kernel
theorem dX5_appointmentOf_14 : decode cX5_appointmentOf 14 = .ok (.iload_n 2, 1) := by decide +kernel
theorem dX5_appointmentOf_15 : decode cX5_appointmentOf 15 = .ok (.iconst (-1), 1) := by decide +kernel
theorem dX5_appointmentOf_16 : decode cX5_appointmentOf 16 = .ok (.if_icmp .ne 13, 3) := by decide +kernel
theorem dX5_appointmentOf_19 : decode cX5_appointmentOf 19 = .ok (.new 117, 3) := by decide +kernel
theorem dX5_appointmentOf_22 : decode cX5_appointmentOf 22 = .ok (.dup, 1) := by decide +kernel
theorem dX5_appointmentOf_23 : decode cX5_appointmentOf 23 = .ok (.ldc 232, 2) := by decide +kernel
theorem dX5_appointmentOf_25 : decode cX5_appointmentOf 25 = .ok (.invokespecial 121, 3) := by decide +kernel
theorem dX5_appointmentOf_28 : decode cX5_appointmentOf 28 = .ok (.athrow, 1) := by decide +kernel
theorem dX5_appointmentOf_29 : decode cX5_appointmentOf 29 = .ok (.iload_n 2, 1) := by decide +kernel
theorem dX5_appointmentOf_30 : decode cX5_appointmentOf 30 = .ok (.ireturn, 1) := by decide +kernel
theorem dX5_inLane_0 : decode cX5_inLane 0 = .ok (.aload_n 0, 1) := by decide +kernel
theorem dX5_inLane_1 : decode cX5_inLane 1 = .ok (.iload_n 1, 1) := by decide +kernel
theorem dX5_inLane_2 : decode cX5_inLane 2 = .ok (.invokevirtual 190, 3) := by decide +kernel
theorem dX5_inLane_5 : decode cX5_inLane 5 = .ok (.iload_n 2, 1) := by decide +kernel
theorem dX5_inLane_6 : decode cX5_inLane 6 = .ok (.ifCond .lt 10, 3) := by decide +kernel
theorem dX5_inLane_9 : decode cX5_inLane 9 = .ok (.iload_n 2, 1) := by decide +kernel
theorem dX5_inLane_10 : decode cX5_inLane 10 = .ok (.sipush 999, 3) := by decide +kernel
theorem dX5_inLane_13 : decode cX5_inLane 13 = .ok (.if_icmp .le 13, 3) := by decide +kernel
theorem dX5_inLane_16 : decode cX5_inLane 16 = .ok (.new 41, 3) := by decide +kernel
theorem dX5_inLane_19 : decode cX5_inLane 19 = .ok (.dup, 1) := by decide +kernel
theorem dX5_inLane_20 : decode cX5_inLane 20 = .ok (.ldc 234, 2) := by decide +kernel
theorem dX5_inLane_22 : decode cX5_inLane 22 = .ok (.invokespecial 45, 3) := by decide +kernel
theorem dX5_inLane_25 : decode cX5_inLane 25 = .ok (.athrow, 1) := by decide +kernel
theorem dX5_inLane_26 : decode cX5_inLane 26 = .ok (.aload_n 0, 1) := by decide +kernel
theorem dX5_inLane_27 : decode cX5_inLane 27 = .ok (.getfield 37, 3) := by decide +kernel
theorem dX5_inLane_30 : decode cX5_inLane 30 = .ok (.iload_n 1, 1) := by decide +kernel
theorem dX5_inLane_31 : decode cX5_inLane 31 = .ok (.iload_n 2, 1) := by decide +kernel
theorem dX5_inLane_32 : decode cX5_inLane 32 = .ok (.invokevirtual 203, 3) := by decide +kernel
theorem dX5_inLane_35 : decode cX5_inLane 35 = .ok (.ireturn, 1) := by decide +kernel
theorem dX5_firstHour_0 : decode cX5_firstHour 0 = .ok (.aload_n 0, 1) := by decide +kernel
theorem dX5_firstHour_1 : decode cX5_firstHour 1 = .ok (.iload_n 1, 1) := by decide +kernel
theorem dX5_firstHour_2 : decode cX5_firstHour 2 = .ok (.invokevirtual 98, 3) := by decide +kernel
theorem dX5_firstHour_5 : decode cX5_firstHour 5 = .ok (.aload_n 0, 1) := by decide +kernel
theorem dX5_firstHour_6 : decode cX5_firstHour 6 = .ok (.getfield 124, 3) := by decide +kernel
theorem dX5_firstHour_9 : decode cX5_firstHour 9 = .ok (.iconst 1, 1) := by decide +kernel
theorem dX5_firstHour_10 : decode cX5_firstHour 10 = .ok (.iadd, 1) := by decide +kernel
theorem dX5_firstHour_11 : decode cX5_firstHour 11 = .ok (.istore_n 2, 1) := by decide +kernel
theorem dX5_firstHour_12 : decode cX5_firstHour 12 = .ok (.iload_n 2, 1) := by decide +kernel
theorem dX5_firstHour_13 : decode cX5_firstHour 13 = .ok (.sipush 999, 3) := by decide +kernel
theorem dX5_firstHour_16 : decode cX5_firstHour 16 = .ok (.if_icmp .gt 34, 3) := by decide +kernel
theorem dX5_firstHour_19 : decode cX5_firstHour 19 = .ok (.aload_n 0, 1) := by decide +kernel
theorem dX5_firstHour_20 : decode cX5_firstHour 20 = .ok (.getfield 15, 3) := by decide +kernel
theorem dX5_firstHour_23 : decode cX5_firstHour 23 = .ok (.iload_n 1, 1) := by decide +kernel
theorem dX5_firstHour_24 : decode cX5_firstHour 24 = .ok (.iload_n 2, 1) := by decide +kernel
theorem dX5_firstHour_25 : decode cX5_firstHour 25 = .ok (.invokevirtual 195, 3) := by decide +kernel
theorem dX5_firstHour_28 : decode cX5_firstHour 28 = .ok (.ifCond .ne 16, 3) := by decide +kernel
theorem dX5_firstHour_31 : decode cX5_firstHour 31 = .ok (.aload_n 0, 1) := by decide +kernel
theorem dX5_firstHour_32 : decode cX5_firstHour 32 = .ok (.getfield 37, 3) := by decide +kernel
theorem dX5_firstHour_35 : decode cX5_firstHour 35 = .ok (.iload_n 2, 1) := by decide +kernel
theorem dX5_firstHour_36 : decode cX5_firstHour 36 = .ok (.invokevirtual 236, 3) := by decide +kernel
theorem dX5_firstHour_39 : decode cX5_firstHour 39 = .ok (.ifCond .eq 5, 3) := by decide +kernel
theorem dX5_firstHour_42 : decode cX5_firstHour 42 = .ok (.iload_n 2, 1) := by decide +kernel
theorem dX5_firstHour_43 : decode cX5_firstHour 43 = .ok (.ireturn, 1) := by decide +kernel
theorem dX5_firstHour_44 : decode cX5_firstHour 44 = .ok (.iinc 2 1, 3) := by decide +kernel
theorem dX5_firstHour_47 : decode cX5_firstHour 47 = .ok (.goto (-35), 3) := by decide +kernel
theorem dX5_firstHour_50 : decode cX5_firstHour 50 = .ok (.new 117, 3) := by decide +kernel
theorem dX5_firstHour_53 : decode cX5_firstHour 53 = .ok (.dup, 1) := by decide +kernel
theorem dX5_firstHour_54 : decode cX5_firstHour 54 = .ok (.ldc 239, 2) := by decide +kernel
theorem dX5_firstHour_56 : decode cX5_firstHour 56 = .ok (.invokespecial 121, 3) := by decide +kernel
theorem dX5_firstHour_59 : decode cX5_firstHour 59 = .ok (.athrow, 1) := by decide +kernel
theorem dX5_pass_0 : decode cX5_pass 0 = .ok (.iload_n 1, 1) := by decide +kernel
theorem dX5_pass_1 : decode cX5_pass 1 = .ok (.iconst 1, 1) := by decide +kernel
theorem dX5_pass_2 : decode cX5_pass 2 = .ok (.if_icmp .lt 21, 3) := by decide +kernel
theorem dX5_pass_5 : decode cX5_pass 5 = .ok (.iload_n 1, 1) := by decide +kernel
theorem dX5_pass_6 : decode cX5_pass 6 = .ok (.bipush 24, 2) := by decide +kernel
theorem dX5_pass_8 : decode cX5_pass 8 = .ok (.if_icmp .gt 15, 3) := by decide +kernel
theorem dX5_pass_11 : decode cX5_pass 11 = .ok (.iload_n 1, 1) := by decide +kernel
theorem dX5_pass_12 : decode cX5_pass 12 = .ok (.sipush 999, 3) := by decide +kernel
theorem dX5_pass_15 : decode cX5_pass 15 = .ok (.aload_n 0, 1) := by decide +kernel
theorem dX5_pass_16 : decode cX5_pass 16 = .ok (.getfield 124, 3) := by decide +kernel
theorem dX5_pass_19 : decode cX5_pass 19 = .ok (.isub, 1) := by decide +kernel
theorem dX5_pass_20 : decode cX5_pass 20 = .ok (.if_icmp .le 13, 3) := by decide +kernel
theorem dX5_pass_23 : decode cX5_pass 23 = .ok (.new 41, 3) := by decide +kernel
theorem dX5_pass_26 : decode cX5_pass 26 = .ok (.dup, 1) := by decide +kernel
theorem dX5_pass_27 : decode cX5_pass 27 = .ok (.ldc 241, 2) := by decide +kernel
theorem dX5_pass_29 : decode cX5_pass 29 = .ok (.invokespecial 45, 3) := by decide +kernel
theorem dX5_pass_32 : decode cX5_pass 32 = .ok (.athrow, 1) := by decide +kernel
theorem dX5_pass_33 : decode cX5_pass 33 = .ok (.iconst 0, 1) := by decide +kernel
theorem dX5_pass_34 : decode cX5_pass 34 = .ok (.istore_n 2, 1) := by decide +kernel
theorem dX5_pass_35 : decode cX5_pass 35 = .ok (.iconst 0, 1) := by decide +kernel
theorem dX5_pass_36 : decode cX5_pass 36 = .ok (.istore_n 3, 1) := by decide +kernel
theorem dX5_pass_37 : decode cX5_pass 37 = .ok (.iload_n 3, 1) := by decide +kernel
theorem dX5_pass_38 : decode cX5_pass 38 = .ok (.iload_n 1, 1) := by decide +kernel
theorem dX5_pass_39 : decode cX5_pass 39 = .ok (.if_icmp .ge 65, 3) := by decide +kernel
theorem dX5_pass_42 : decode cX5_pass 42 = .ok (.aload_n 0, 1) := by decide +kernel
theorem dX5_pass_43 : decode cX5_pass 43 = .ok (.dup, 1) := by decide +kernel
theorem dX5_pass_44 : decode cX5_pass 44 = .ok (.getfield 124, 3) := by decide +kernel
theorem dX5_pass_47 : decode cX5_pass 47 = .ok (.iconst 1, 1) := by decide +kernel
theorem dX5_pass_48 : decode cX5_pass 48 = .ok (.iadd, 1) := by decide +kernel
theorem dX5_pass_49 : decode cX5_pass 49 = .ok (.putfield 124, 3) := by decide +kernel
theorem dX5_pass_52 : decode cX5_pass 52 = .ok (.aload_n 0, 1) := by decide +kernel
theorem dX5_pass_53 : decode cX5_pass 53 = .ok (.getfield 15, 3) := by decide +kernel
theorem dX5_pass_56 : decode cX5_pass 56 = .ok (.aload_n 0, 1) := by decide +kernel
theorem dX5_pass_57 : decode cX5_pass 57 = .ok (.getfield 124, 3) := by decide +kernel
theorem dX5_pass_60 : decode cX5_pass 60 = .ok (.invokevirtual 243, 3) := by decide +kernel
theorem dX5_pass_63 : decode cX5_pass 63 = .ok (.iconst 0, 1) := by decide +kernel
theorem dX5_pass_64 : decode cX5_pass 64 = .ok (.istore 4, 2) := by decide +kernel
theorem dX5_pass_66 : decode cX5_pass 66 = .ok (.iload 4, 2) := by decide +kernel
theorem dX5_pass_68 : decode cX5_pass 68 = .ok (.iconst 3, 1) := by decide +kernel
theorem dX5_pass_69 : decode cX5_pass 69 = .ok (.if_icmp .ge 29, 3) := by decide +kernel
theorem dX5_pass_72 : decode cX5_pass 72 = .ok (.iload_n 2, 1) := by decide +kernel
theorem dX5_pass_73 : decode cX5_pass 73 = .ok (.aload_n 0, 1) := by decide +kernel
theorem dX5_pass_74 : decode cX5_pass 74 = .ok (.aload_n 0, 1) := by decide +kernel
theorem dX5_pass_75 : decode cX5_pass 75 = .ok (.getfield 37, 3) := by decide +kernel
theorem dX5_pass_78 : decode cX5_pass 78 = .ok (.iload 4, 2) := by decide +kernel
theorem dX5_pass_80 : decode cX5_pass 80 = .ok (.aload_n 0, 1) := by decide +kernel
theorem dX5_pass_81 : decode cX5_pass 81 = .ok (.getfield 124, 3) := by decide +kernel
theorem dX5_pass_84 : decode cX5_pass 84 = .ok (.invokevirtual 203, 3) := by decide +kernel
theorem dX5_pass_87 : decode cX5_pass 87 = .ok (.invokevirtual 246, 3) := by decide +kernel
theorem dX5_pass_90 : decode cX5_pass 90 = .ok (.iadd, 1) := by decide +kernel
theorem dX5_pass_91 : decode cX5_pass 91 = .ok (.istore_n 2, 1) := by decide +kernel
theorem dX5_pass_92 : decode cX5_pass 92 = .ok (.iinc 4 1, 3) := by decide +kernel
theorem dX5_pass_95 : decode cX5_pass 95 = .ok (.goto (-29), 3) := by decide +kernel
theorem dX5_pass_98 : decode cX5_pass 98 = .ok (.iinc 3 1, 3) := by decide +kernel
theorem dX5_pass_101 : decode cX5_pass 101 = .ok (.goto (-64), 3) := by decide +kernel
theorem dX5_pass_104 : decode cX5_pass 104 = .ok (.iload_n 2, 1) := by decide +kernel
theorem dX5_pass_105 : decode cX5_pass 105 = .ok (.ireturn, 1) := by decide +kernel
theorem dX5_now_0 : decode cX5_now 0 = .ok (.aload_n 0, 1) := by decide +kernel
theorem dX5_now_1 : decode cX5_now 1 = .ok (.getfield 124, 3) := by decide +kernel
theorem dX5_now_4 : decode cX5_now 4 = .ok (.ireturn, 1) := by decide +kernel
theorem dX5_weightLeft_0 : decode cX5_weightLeft 0 = .ok (.aload_n 0, 1) := by decide +kernel
theorem dX5_weightLeft_1 : decode cX5_weightLeft 1 = .ok (.getfield 249, 3) := by decide +kernel
theorem dX5_weightLeft_4 : decode cX5_weightLeft 4 = .ok (.lreturn, 1) := by decide +kernel
theorem dX5_doneShare_0 : decode cX5_doneShare 0 = .ok (.aload_n 0, 1) := by decide +kernel
theorem dX5_doneShare_1 : decode cX5_doneShare 1 = .ok (.getfield 37, 3) := by decide +kernel
theorem dX5_doneShare_4 : decode cX5_doneShare 4 = .ok (.bipush 100, 2) := by decide +kernel
theorem dX5_doneShare_6 : decode cX5_doneShare 6 = .ok (.invokevirtual 228, 3) := by decide +kernel
theorem dX5_doneShare_9 : decode cX5_doneShare 9 = .ok (.istore_n 1, 1) := by decide +kernel
theorem dX5_doneShare_10 : decode cX5_doneShare 10 = .ok (.iload_n 1, 1) := by decide +kernel
theorem dX5_doneShare_11 : decode cX5_doneShare 11 = .ok (.aload_n 0, 1) := by decide +kernel
theorem dX5_doneShare_12 : decode cX5_doneShare 12 = .ok (.getfield 37, 3) := by decide +kernel
theorem dX5_doneShare_15 : decode cX5_doneShare 15 = .ok (.bipush 109, 2) := by decide +kernel
theorem dX5_doneShare_17 : decode cX5_doneShare 17 = .ok (.invokevirtual 228, 3) := by decide +kernel
theorem dX5_doneShare_20 : decode cX5_doneShare 20 = .ok (.iadd, 1) := by decide +kernel
theorem dX5_doneShare_21 : decode cX5_doneShare 21 = .ok (.aload_n 0, 1) := by decide +kernel
theorem dX5_doneShare_22 : decode cX5_doneShare 22 = .ok (.getfield 37, 3) := by decide +kernel
theorem dX5_doneShare_25 : decode cX5_doneShare 25 = .ok (.bipush 103, 2) := by decide +kernel
theorem dX5_doneShare_27 : decode cX5_doneShare 27 = .ok (.invokevirtual 228, 3) := by decide +kernel
theorem dX5_doneShare_30 : decode cX5_doneShare 30 = .ok (.iadd, 1) := by decide +kernel
theorem dX5_doneShare_31 : decode cX5_doneShare 31 = .ok (.istore_n 2, 1) := by decide +kernel
theorem dX5_doneShare_32 : decode cX5_doneShare 32 = .ok (.iload_n 2, 1) := by decide +kernel
theorem dX5_doneShare_33 : decode cX5_doneShare 33 = .ok (.ifCond .ne 13, 3) := by decide +kernel
theorem dX5_doneShare_36 : decode cX5_doneShare 36 = .ok (.new 117, 3) := by decide +kernel
theorem dX5_doneShare_39 : decode cX5_doneShare 39 = .ok (.dup, 1) := by decide +kernel
theorem dX5_doneShare_40 : decode cX5_doneShare 40 = .ok (.ldc 253, 2) := by decide +kernel
theorem dX5_doneShare_42 : decode cX5_doneShare 42 = .ok (.invokespecial 121, 3) := by decide +kernel
theorem dX5_doneShare_45 : decode cX5_doneShare 45 = .ok (.athrow, 1) := by decide +kernel
theorem dX5_doneShare_46 : decode cX5_doneShare 46 = .ok (.iload_n 1, 1) := by decide +kernel
theorem dX5_doneShare_47 : decode cX5_doneShare 47 = .ok (.i2f, 1) := by decide +kernel
theorem dX5_doneShare_48 : decode cX5_doneShare 48 = .ok (.iload_n 2, 1) := by decide +kernel
theorem dX5_doneShare_49 : decode cX5_doneShare 49 = .ok (.i2f, 1) := by decide +kernel
theorem dX5_doneShare_50 : decode cX5_doneShare 50 = .ok (.fdiv, 1) := by decide +kernel
theorem dX5_doneShare_51 : decode cX5_doneShare 51 = .ok (.freturn, 1) := by decide +kernel
theorem dX5_requireStack_0 : decode cX5_requireStack 0 = .ok (.aload_n 0, 1) := by decide +kernel
theorem dX5_requireStack_1 : decode cX5_requireStack 1 = .ok (.getfield 21, 3) := by decide +kernel
theorem dX5_requireStack_4 : decode cX5_requireStack 4 = .ok (.iload_n 1, 1) := by decide +kernel
theorem dX5_requireStack_5 : decode cX5_requireStack 5 = .ok (.invokevirtual 255, 3) := by decide +kernel
theorem dX5_requireStack_8 : decode cX5_requireStack 8 = .ok (.ifCond .ne 14, 3) := by decide +kernel
theorem dX5_requireStack_11 : decode cX5_requireStack 11 = .ok (.new 258, 3) := by decide +kernel
theorem dX5_requireStack_14 : decode cX5_requireStack 14 = .ok (.dup, 1) := by decide +kernel
theorem dX5_requireStack_15 : decode cX5_requireStack 15 = .ok (.ldc_w 260, 3) := by decide +kernel
theorem dX5_requireStack_18 : decode cX5_requireStack 18 = .ok (.invokespecial 262, 3) := by decide +kernel
theorem dX5_requireStack_21 : decode cX5_requireStack 21 = .ok (.athrow, 1) := by decide +kernel
theorem dX5_requireStack_22 : decode cX5_requireStack 22 = .ok (.return_, 1) := by decide +kernel
theorem dX5_requireBox_0 : decode cX5_requireBox 0 = .ok (.aload_n 0, 1) := by decide +kernel
theorem dX5_requireBox_1 : decode cX5_requireBox 1 = .ok (.getfield 21, 3) := by decide +kernel
theorem dX5_requireBox_4 : decode cX5_requireBox 4 = .ok (.iload_n 1, 1) := by decide +kernel
theorem dX5_requireBox_5 : decode cX5_requireBox 5 = .ok (.invokevirtual 95, 3) := by decide +kernel
theorem dX5_requireBox_8 : decode cX5_requireBox 8 = .ok (.iconst (-1), 1) := by decide +kernel
theorem dX5_requireBox_9 : decode cX5_requireBox 9 = .ok (.if_icmp .ne 14, 3) := by decide +kernel
theorem dX5_requireBox_12 : decode cX5_requireBox 12 = .ok (.new 258, 3) := by decide +kernel
theorem dX5_requireBox_15 : decode cX5_requireBox 15 = .ok (.dup, 1) := by decide +kernel
theorem dX5_requireBox_16 : decode cX5_requireBox 16 = .ok (.ldc_w 263, 3) := by decide +kernel
theorem dX5_requireBox_19 : decode cX5_requireBox 19 = .ok (.invokespecial 262, 3) := by decide +kernel
theorem dX5_requireBox_22 : decode cX5_requireBox 22 = .ok (.athrow, 1) := by decide +kernel
theorem dX5_requireBox_23 : decode cX5_requireBox 23 = .ok (.return_, 1) := by decide +kernel
theorem dX5_requireLane_0 : decode cX5_requireLane 0 = .ok (.iload_n 1, 1) := by decide +kernel
theorem dX5_requireLane_1 : decode cX5_requireLane 1 = .ok (.ifCond .lt 8, 3) := by decide +kernel
theorem dX5_requireLane_4 : decode cX5_requireLane 4 = .ok (.iload_n 1, 1) := by decide +kernel
theorem dX5_requireLane_5 : decode cX5_requireLane 5 = .ok (.iconst 3, 1) := by decide +kernel
theorem dX5_requireLane_6 : decode cX5_requireLane 6 = .ok (.if_icmp .lt 14, 3) := by decide +kernel
theorem dX5_requireLane_9 : decode cX5_requireLane 9 = .ok (.new 258, 3) := by decide +kernel
theorem dX5_requireLane_12 : decode cX5_requireLane 12 = .ok (.dup, 1) := by decide +kernel
theorem dX5_requireLane_13 : decode cX5_requireLane 13 = .ok (.ldc_w 265, 3) := by decide +kernel
theorem dX5_requireLane_16 : decode cX5_requireLane 16 = .ok (.invokespecial 262, 3) := by decide +kernel
theorem dX5_requireLane_19 : decode cX5_requireLane 19 = .ok (.athrow, 1) := by decide +kernel
theorem dX5_requireLane_20 : decode cX5_requireLane 20 = .ok (.return_, 1) := by decide +kernel
theorem dX5_requireAppointment_0 : decode cX5_requireAppointment 0 = .ok (.iload_n 1, 1) := by decide +kernel
theorem dX5_requireAppointment_1 : decode cX5_requireAppointment 1 = .ok (.ifCond .lt 14, 3) := by decide +kernel
theorem dX5_requireAppointment_4 : decode cX5_requireAppointment 4 = .ok (.iload_n 1, 1) := by decide +kernel
theorem dX5_requireAppointment_5 : decode cX5_requireAppointment 5 = .ok (.aload_n 0, 1) := by decide +kernel
theorem dX5_requireAppointment_6 : decode cX5_requireAppointment 6 = .ok (.getfield 37, 3) := by decide +kernel
theorem dX5_requireAppointment_9 : decode cX5_requireAppointment 9 = .ok (.invokevirtual 208, 3) := by decide +kernel
theorem dX5_requireAppointment_12 : decode cX5_requireAppointment 12 = .ok (.if_icmp .lt 14, 3) := by decide +kernel
theorem dX5_requireAppointment_15 : decode cX5_requireAppointment 15 = .ok (.new 258, 3) := by decide +kernel
theorem dX5_requireAppointment_18 : decode cX5_requireAppointment 18 = .ok (.dup, 1) := by decide +kernel
theorem dX5_requireAppointment_19 : decode cX5_requireAppointment 19 = .ok (.ldc_w 267, 3) := by decide +kernel
theorem dX5_requireAppointment_22 : decode cX5_requireAppointment 22 = .ok (.invokespecial 262, 3) := by decide +kernel
theorem dX5_requireAppointment_25 : decode cX5_requireAppointment 25 = .ok (.athrow, 1) := by decide +kernel
theorem dX5_requireAppointment_26 : decode cX5_requireAppointment 26 = .ok (.return_, 1) := by decide +kernel
theorem dX5_requirePlan_0 : decode cX5_requirePlan 0 = .ok (.aload_n 0, 1) := by decide +kernel
theorem dX5_requirePlan_1 : decode cX5_requirePlan 1 = .ok (.iload_n 1, 1) := by decide +kernel
theorem dX5_requirePlan_2 : decode cX5_requirePlan 2 = .ok (.invokevirtual 98, 3) := by decide +kernel
theorem dX5_requirePlan_5 : decode cX5_requirePlan 5 = .ok (.aload_n 0, 1) := by decide +kernel
theorem dX5_requirePlan_6 : decode cX5_requirePlan 6 = .ok (.getfield 30, 3) := by decide +kernel
theorem dX5_requirePlan_9 : decode cX5_requirePlan 9 = .ok (.iload_n 1, 1) := by decide +kernel
theorem dX5_requirePlan_10 : decode cX5_requirePlan 10 = .ok (.invokevirtual 269, 3) := by decide +kernel
theorem dX5_requirePlan_13 : decode cX5_requirePlan 13 = .ok (.ifCond .ne 13, 3) := by decide +kernel
theorem dX5_requirePlan_16 : decode cX5_requirePlan 16 = .ok (.new 117, 3) := by decide +kernel
theorem dX5_requirePlan_19 : decode cX5_requirePlan 19 = .ok (.dup, 1) := by decide +kernel
theorem dX5_requirePlan_20 : decode cX5_requirePlan 20 = .ok (.ldc 176, 2) := by decide +kernel
theorem dX5_requirePlan_22 : decode cX5_requirePlan 22 = .ok (.invokespecial 121, 3) := by decide +kernel
theorem dX5_requirePlan_25 : decode cX5_requirePlan 25 = .ok (.athrow, 1) := by decide +kernel
theorem dX5_requirePlan_26 : decode cX5_requirePlan 26 = .ok (.return_, 1) := by decide +kernel
theorem dX5_requirePlannedMove_0 : decode cX5_requirePlannedMove 0 = .ok (.iload_n 1, 1) := by decide +kernel
theorem dX5_requirePlannedMove_1 : decode cX5_requirePlannedMove 1 = .ok (.ifCond .lt 14, 3) := by decide +kernel
theorem dX5_requirePlannedMove_4 : decode cX5_requirePlannedMove 4 = .ok (.iload_n 1, 1) := by decide +kernel
theorem dX5_requirePlannedMove_5 : decode cX5_requirePlannedMove 5 = .ok (.aload_n 0, 1) := by decide +kernel
theorem dX5_requirePlannedMove_6 : decode cX5_requirePlannedMove 6 = .ok (.getfield 30, 3) := by decide +kernel
theorem dX5_requirePlannedMove_9 : decode cX5_requirePlannedMove 9 = .ok (.invokevirtual 170, 3) := by decide +kernel
theorem dX5_requirePlannedMove_12 : decode cX5_requirePlannedMove 12 = .ok (.if_icmp .lt 14, 3) := by decide +kernel
theorem dX5_requirePlannedMove_15 : decode cX5_requirePlannedMove 15 = .ok (.new 117, 3) := by decide +kernel
theorem dX5_requirePlannedMove_18 : decode cX5_requirePlannedMove 18 = .ok (.dup, 1) := by decide +kernel
theorem dX5_requirePlannedMove_19 : decode cX5_requirePlannedMove 19 = .ok (.ldc_w 272, 3) := by decide +kernel
theorem dX5_requirePlannedMove_22 : decode cX5_requirePlannedMove 22 = .ok (.invokespecial 121, 3) := by decide +kernel
theorem dX5_requirePlannedMove_25 : decode cX5_requirePlannedMove 25 = .ok (.athrow, 1) := by decide +kernel
theorem dX5_requirePlannedMove_26 : decode cX5_requirePlannedMove 26 = .ok (.return_, 1) := by decide +kernel
theorem dX5_makeMove_0 : decode cX5_makeMove 0 = .ok (.aload_n 0, 1) := by decide +kernel
theorem dX5_makeMove_1 : decode cX5_makeMove 1 = .ok (.getfield 21, 3) := by decide +kernel
theorem dX5_makeMove_4 : decode cX5_makeMove 4 = .ok (.aload_n 0, 1) := by decide +kernel
theorem dX5_makeMove_5 : decode cX5_makeMove 5 = .ok (.getfield 21, 3) := by decide +kernel
theorem dX5_makeMove_8 : decode cX5_makeMove 8 = .ok (.iload_n 1, 1) := by decide +kernel
theorem dX5_makeMove_9 : decode cX5_makeMove 9 = .ok (.invokevirtual 95, 3) := by decide +kernel
theorem dX5_makeMove_12 : decode cX5_makeMove 12 = .ok (.iload_n 2, 1) := by decide +kernel
theorem dX5_makeMove_13 : decode cX5_makeMove 13 = .ok (.invokevirtual 274, 3) := by decide +kernel
theorem dX5_makeMove_16 : decode cX5_makeMove 16 = .ok (.aload_n 0, 1) := by decide +kernel
theorem dX5_makeMove_17 : decode cX5_makeMove 17 = .ok (.dup, 1) := by decide +kernel
theorem dX5_makeMove_18 : decode cX5_makeMove 18 = .ok (.getfield 164, 3) := by decide +kernel
theorem dX5_makeMove_21 : decode cX5_makeMove 21 = .ok (.iconst 1, 1) := by decide +kernel
theorem dX5_makeMove_22 : decode cX5_makeMove 22 = .ok (.iadd, 1) := by decide +kernel
theorem dX5_makeMove_23 : decode cX5_makeMove 23 = .ok (.putfield 164, 3) := by decide +kernel
theorem dX5_makeMove_26 : decode cX5_makeMove 26 = .ok (.return_, 1) := by decide +kernel
theorem dX5_makePlannedMoves_0 : decode cX5_makePlannedMoves 0 = .ok (.iconst 0, 1) := by decide +kernel
theorem dX5_makePlannedMoves_1 : decode cX5_makePlannedMoves 1 = .ok (.istore_n 1, 1) := by decide +kernel
theorem dX5_makePlannedMoves_2 : decode cX5_makePlannedMoves 2 = .ok (.iload_n 1, 1) := by decide +kernel
theorem dX5_makePlannedMoves_3 : decode cX5_makePlannedMoves 3 = .ok (.aload_n 0, 1) := by decide +kernel
theorem dX5_makePlannedMoves_4 : decode cX5_makePlannedMoves 4 = .ok (.getfield 30, 3) := by decide +kernel
theorem dX5_makePlannedMoves_7 : decode cX5_makePlannedMoves 7 = .ok (.invokevirtual 170, 3) := by decide +kernel
theorem dX5_makePlannedMoves_10 : decode cX5_makePlannedMoves 10 = .ok (.if_icmp .ge 29, 3) := by decide +kernel
theorem dX5_makePlannedMoves_13 : decode cX5_makePlannedMoves 13 = .ok (.aload_n 0, 1) := by decide +kernel
theorem dX5_makePlannedMoves_14 : decode cX5_makePlannedMoves 14 = .ok (.aload_n 0, 1) := by decide +kernel
theorem dX5_makePlannedMoves_15 : decode cX5_makePlannedMoves 15 = .ok (.getfield 30, 3) := by decide +kernel
theorem dX5_makePlannedMoves_18 : decode cX5_makePlannedMoves 18 = .ok (.iload_n 1, 1) := by decide +kernel
theorem dX5_makePlannedMoves_19 : decode cX5_makePlannedMoves 19 = .ok (.invokevirtual 181, 3) := by decide +kernel
theorem dX5_makePlannedMoves_22 : decode cX5_makePlannedMoves 22 = .ok (.aload_n 0, 1) := by decide +kernel
theorem dX5_makePlannedMoves_23 : decode cX5_makePlannedMoves 23 = .ok (.getfield 30, 3) := by decide +kernel
theorem dX5_makePlannedMoves_26 : decode cX5_makePlannedMoves 26 = .ok (.iload_n 1, 1) := by decide +kernel
theorem dX5_makePlannedMoves_27 : decode cX5_makePlannedMoves 27 = .ok (.invokevirtual 184, 3) := by decide +kernel
theorem dX5_makePlannedMoves_30 : decode cX5_makePlannedMoves 30 = .ok (.invokevirtual 161, 3) := by decide +kernel
theorem dX5_makePlannedMoves_33 : decode cX5_makePlannedMoves 33 = .ok (.iinc 1 1, 3) := by decide +kernel
theorem dX5_makePlannedMoves_36 : decode cX5_makePlannedMoves 36 = .ok (.goto (-34), 3) := by decide +kernel
theorem dX5_makePlannedMoves_39 : decode cX5_makePlannedMoves 39 = .ok (.return_, 1) := by decide +kernel
theorem dX5_giveBackIfHeld_0 : decode cX5_giveBackIfHeld 0 = .ok (.aload_n 0, 1) := by decide +kernel
theorem dX5_giveBackIfHeld_1 : decode cX5_giveBackIfHeld 1 = .ok (.getfield 37, 3) := by decide +kernel
theorem dX5_giveBackIfHeld_4 : decode cX5_giveBackIfHeld 4 = .ok (.iload_n 1, 1) := by decide +kernel
theorem dX5_giveBackIfHeld_5 : decode cX5_giveBackIfHeld 5 = .ok (.invokevirtual 200, 3) := by decide +kernel
theorem dX5_giveBackIfHeld_8 : decode cX5_giveBackIfHeld 8 = .ok (.istore_n 2, 1) := by decide +kernel
theorem dX5_giveBackIfHeld_9 : decode cX5_giveBackIfHeld 9 = .ok (.iload_n 2, 1) := by decide +kernel
theorem dX5_giveBackIfHeld_10 : decode cX5_giveBackIfHeld 10 = .ok (.iconst (-1), 1) := by decide +kernel
theorem dX5_giveBackIfHeld_11 : decode cX5_giveBackIfHeld 11 = .ok (.if_icmp .eq 22, 3) := by decide +kernel
theorem dX5_giveBackIfHeld_14 : decode cX5_giveBackIfHeld 14 = .ok (.aload_n 0, 1) := by decide +kernel
theorem dX5_giveBackIfHeld_15 : decode cX5_giveBackIfHeld 15 = .ok (.getfield 15, 3) := by decide +kernel
theorem dX5_giveBackIfHeld_18 : decode cX5_giveBackIfHeld 18 = .ok (.iload_n 1, 1) := by decide +kernel
theorem dX5_giveBackIfHeld_19 : decode cX5_giveBackIfHeld 19 = .ok (.aload_n 0, 1) := by decide +kernel
theorem dX5_giveBackIfHeld_20 : decode cX5_giveBackIfHeld 20 = .ok (.getfield 37, 3) := by decide +kernel
theorem dX5_giveBackIfHeld_23 : decode cX5_giveBackIfHeld 23 = .ok (.iload_n 2, 1) := by decide +kernel
theorem dX5_giveBackIfHeld_24 : decode cX5_giveBackIfHeld 24 = .ok (.invokevirtual 277, 3) := by decide +kernel
theorem dX5_giveBackIfHeld_27 : decode cX5_giveBackIfHeld 27 = .ok (.invokevirtual 195, 3) := by decide +kernel
theorem dX5_giveBackIfHeld_30 : decode cX5_giveBackIfHeld 30 = .ok (.ifCond .ne 5, 3) := by decide +kernel
theorem dX5_giveBackIfHeld_33 : decode cX5_giveBackIfHeld 33 = .ok (.iconst 0, 1) := by decide +kernel
theorem dX5_giveBackIfHeld_34 : decode cX5_giveBackIfHeld 34 = .ok (.ireturn, 1) := by decide +kernel
theorem dX5_giveBackIfHeld_35 : decode cX5_giveBackIfHeld 35 = .ok (.aload_n 0, 1) := by decide +kernel
theorem dX5_giveBackIfHeld_36 : decode cX5_giveBackIfHeld 36 = .ok (.getfield 37, 3) := by decide +kernel
theorem dX5_giveBackIfHeld_39 : decode cX5_giveBackIfHeld 39 = .ok (.iload_n 2, 1) := by decide +kernel
theorem dX5_giveBackIfHeld_40 : decode cX5_giveBackIfHeld 40 = .ok (.bipush 103, 2) := by decide +kernel
theorem dX5_giveBackIfHeld_42 : decode cX5_giveBackIfHeld 42 = .ok (.invokevirtual 224, 3) := by decide +kernel
theorem dX5_giveBackIfHeld_45 : decode cX5_giveBackIfHeld 45 = .ok (.iconst 1, 1) := by decide +kernel
theorem dX5_giveBackIfHeld_46 : decode cX5_giveBackIfHeld 46 = .ok (.ireturn, 1) := by decide +kernel
theorem dX5_serve_0 : decode cX5_serve 0 = .ok (.iload_n 1, 1) := by decide +kernel
theorem dX5_serve_1 : decode cX5_serve 1 = .ok (.iconst (-1), 1) := by decide +kernel
theorem dX5_serve_2 : decode cX5_serve 2 = .ok (.if_icmp .ne 5, 3) := by decide +kernel
theorem dX5_serve_5 : decode cX5_serve 5 = .ok (.iconst 0, 1) := by decide +kernel
theorem dX5_serve_6 : decode cX5_serve 6 = .ok (.ireturn, 1) := by decide +kernel
theorem dX5_serve_7 : decode cX5_serve 7 = .ok (.aload_n 0, 1) := by decide +kernel
theorem dX5_serve_8 : decode cX5_serve 8 = .ok (.getfield 37, 3) := by decide +kernel
theorem dX5_serve_11 : decode cX5_serve 11 = .ok (.iload_n 1, 1) := by decide +kernel
theorem dX5_serve_12 : decode cX5_serve 12 = .ok (.invokevirtual 280, 3) := by decide +kernel
theorem dX5_serve_15 : decode cX5_serve 15 = .ok (.istore_n 2, 1) := by decide +kernel
theorem dX5_serve_16 : decode cX5_serve 16 = .ok (.aload_n 0, 1) := by decide +kernel
theorem dX5_serve_17 : decode cX5_serve 17 = .ok (.getfield 15, 3) := by decide +kernel
theorem dX5_serve_20 : decode cX5_serve 20 = .ok (.iload_n 2, 1) := by decide +kernel
theorem dX5_serve_21 : decode cX5_serve 21 = .ok (.invokevirtual 137, 3) := by decide +kernel
theorem dX5_serve_24 : decode cX5_serve 24 = .ok (.ifCond .ne 14, 3) := by decide +kernel
theorem dX5_serve_27 : decode cX5_serve 27 = .ok (.aload_n 0, 1) := by decide +kernel
theorem dX5_serve_28 : decode cX5_serve 28 = .ok (.getfield 30, 3) := by decide +kernel
theorem dX5_serve_31 : decode cX5_serve 31 = .ok (.iload_n 2, 1) := by decide +kernel
theorem dX5_serve_32 : decode cX5_serve 32 = .ok (.invokevirtual 269, 3) := by decide +kernel
theorem dX5_serve_35 : decode cX5_serve 35 = .ok (.ifCond .ne 15, 3) := by decide +kernel
theorem dX5_serve_38 : decode cX5_serve 38 = .ok (.aload_n 0, 1) := by decide +kernel
theorem dX5_serve_39 : decode cX5_serve 39 = .ok (.getfield 37, 3) := by decide +kernel
theorem dX5_serve_42 : decode cX5_serve 42 = .ok (.iload_n 1, 1) := by decide +kernel
theorem dX5_serve_43 : decode cX5_serve 43 = .ok (.bipush 109, 2) := by decide +kernel
theorem dX5_serve_45 : decode cX5_serve 45 = .ok (.invokevirtual 224, 3) := by decide +kernel
theorem dX5_serve_48 : decode cX5_serve 48 = .ok (.iconst 0, 1) := by decide +kernel
theorem dX5_serve_49 : decode cX5_serve 49 = .ok (.ireturn, 1) := by decide +kernel
theorem dX5_serve_50 : decode cX5_serve 50 = .ok (.aload_n 0, 1) := by decide +kernel
theorem dX5_serve_51 : decode cX5_serve 51 = .ok (.invokevirtual 187, 3) := by decide +kernel
theorem dX5_serve_54 : decode cX5_serve 54 = .ok (.aload_n 0, 1) := by decide +kernel
theorem dX5_serve_55 : decode cX5_serve 55 = .ok (.getfield 21, 3) := by decide +kernel
theorem dX5_serve_58 : decode cX5_serve 58 = .ok (.aload_n 0, 1) := by decide +kernel
theorem dX5_serve_59 : decode cX5_serve 59 = .ok (.getfield 21, 3) := by decide +kernel
theorem dX5_serve_62 : decode cX5_serve 62 = .ok (.iload_n 2, 1) := by decide +kernel
theorem dX5_serve_63 : decode cX5_serve 63 = .ok (.invokevirtual 95, 3) := by decide +kernel
theorem dX5_serve_66 : decode cX5_serve 66 = .ok (.invokevirtual 283, 3) := by decide +kernel
theorem dX5_serve_69 : decode cX5_serve 69 = .ok (.aload_n 0, 1) := by decide +kernel
theorem dX5_serve_70 : decode cX5_serve 70 = .ok (.dup, 1) := by decide +kernel
theorem dX5_serve_71 : decode cX5_serve 71 = .ok (.getfield 249, 3) := by decide +kernel
theorem dX5_serve_74 : decode cX5_serve 74 = .ok (.aload_n 0, 1) := by decide +kernel
theorem dX5_serve_75 : decode cX5_serve 75 = .ok (.getfield 15, 3) := by decide +kernel
theorem dX5_serve_78 : decode cX5_serve 78 = .ok (.iload_n 2, 1) := by decide +kernel
theorem dX5_serve_79 : decode cX5_serve 79 = .ok (.invokevirtual 101, 3) := by decide +kernel
theorem dX5_serve_82 : decode cX5_serve 82 = .ok (.i2l, 1) := by decide +kernel
theorem dX5_serve_83 : decode cX5_serve 83 = .ok (.ladd, 1) := by decide +kernel
theorem dX5_serve_84 : decode cX5_serve 84 = .ok (.putfield 249, 3) := by decide +kernel
theorem dX5_serve_87 : decode cX5_serve 87 = .ok (.aload_n 0, 1) := by decide +kernel
theorem dX5_serve_88 : decode cX5_serve 88 = .ok (.getfield 37, 3) := by decide +kernel
theorem dX5_serve_91 : decode cX5_serve 91 = .ok (.iload_n 1, 1) := by decide +kernel
theorem dX5_serve_92 : decode cX5_serve 92 = .ok (.bipush 100, 2) := by decide +kernel
theorem dX5_serve_94 : decode cX5_serve 94 = .ok (.invokevirtual 224, 3) := by decide +kernel
theorem dX5_serve_97 : decode cX5_serve 97 = .ok (.iconst 1, 1) := by decide +kernel
theorem dX5_serve_98 : decode cX5_serve 98 = .ok (.ireturn, 1) := by decide +kernel
end
section
theorem dX6_init_0 : decode cX6_init 0 = .ok (.aload_n 0, 1) := by decide +kernel
theorem dX6_init_1 : decode cX6_init 1 = .ok (.invokespecial 1, 3) := by decide +kernel
theorem dX6_init_4 : decode cX6_init 4 = .ok (.aload_n 0, 1) := by decide +kernel
theorem dX6_init_5 : decode cX6_init 5 = .ok (.iconst 4, 1) := by decide +kernel
theorem dX6_init_6 : decode cX6_init 6 = .ok (.newarray .int, 2) := by decide +kernel
theorem dX6_init_8 : decode cX6_init 8 = .ok (.putfield 7, 3) := by decide +kernel
theorem dX6_init_11 : decode cX6_init 11 = .ok (.aload_n 0, 1) := by decide +kernel
theorem dX6_init_12 : decode cX6_init 12 = .ok (.bipush 20, 2) := by decide +kernel
theorem dX6_init_14 : decode cX6_init 14 = .ok (.newarray .int, 2) := by decide +kernel
theorem dX6_init_16 : decode cX6_init 16 = .ok (.putfield 13, 3) := by decide +kernel
theorem dX6_init_19 : decode cX6_init 19 = .ok (.aload_n 0, 1) := by decide +kernel
theorem dX6_init_20 : decode cX6_init 20 = .ok (.bipush 20, 2) := by decide +kernel
theorem dX6_init_22 : decode cX6_init 22 = .ok (.newarray .boolean, 2) := by decide +kernel
theorem dX6_init_24 : decode cX6_init 24 = .ok (.putfield 16, 3) := by decide +kernel
theorem dX6_init_27 : decode cX6_init 27 = .ok (.aload_n 0, 1) := by decide +kernel
theorem dX6_init_28 : decode cX6_init 28 = .ok (.bipush 20, 2) := by decide +kernel
theorem dX6_init_30 : decode cX6_init 30 = .ok (.newarray .char, 2) := by decide +kernel
theorem dX6_init_32 : decode cX6_init 32 = .ok (.putfield 20, 3) := by decide +kernel
theorem dX6_init_35 : decode cX6_init 35 = .ok (.aload_n 0, 1) := by decide +kernel
theorem dX6_init_36 : decode cX6_init 36 = .ok (.bipush 20, 2) := by decide +kernel
theorem dX6_init_38 : decode cX6_init 38 = .ok (.newarray .int, 2) := by decide +kernel
theorem dX6_init_40 : decode cX6_init 40 = .ok (.putfield 24, 3) := by decide +kernel
theorem dX6_init_43 : decode cX6_init 43 = .ok (.aload_n 0, 1) := by decide +kernel
theorem dX6_init_44 : decode cX6_init 44 = .ok (.bipush 24, 2) := by decide +kernel
theorem dX6_init_46 : decode cX6_init 46 = .ok (.newarray .int, 2) := by decide +kernel
theorem dX6_init_48 : decode cX6_init 48 = .ok (.putfield 27, 3) := by decide +kernel
theorem dX6_init_51 : decode cX6_init 51 = .ok (.aload_n 0, 1) := by decide +kernel
theorem dX6_init_52 : decode cX6_init 52 = .ok (.bipush 96, 2) := by decide +kernel
theorem dX6_init_54 : decode cX6_init 54 = .ok (.newarray .int, 2) := by decide +kernel
theorem dX6_init_56 : decode cX6_init 56 = .ok (.putfield 30, 3) := by decide +kernel
theorem dX6_init_59 : decode cX6_init 59 = .ok (.aload_n 0, 1) := by decide +kernel
theorem dX6_init_60 : decode cX6_init 60 = .ok (.bipush 6, 2) := by decide +kernel
theorem dX6_init_62 : decode cX6_init 62 = .ok (.newarray .int, 2) := by decide +kernel
theorem dX6_init_64 : decode cX6_init 64 = .ok (.putfield 33, 3) := by decide +kernel
theorem dX6_init_67 : decode cX6_init 67 = .ok (.aload_n 0, 1) := by decide +kernel
theorem dX6_init_68 : decode cX6_init 68 = .ok (.bipush 30, 2) := by decide +kernel
theorem dX6_init_70 : decode cX6_init 70 = .ok (.newarray .int, 2) := by decide +kernel
theorem dX6_init_72 : decode cX6_init 72 = .ok (.putfield 36, 3) := by decide +kernel
theorem dX6_init_75 : decode cX6_init 75 = .ok (.aload_n 0, 1) := by decide +kernel
theorem dX6_init_76 : decode cX6_init 76 = .ok (.bipush 30, 2) := by decide +kernel
theorem dX6_init_78 : decode cX6_init 78 = .ok (.newarray .int, 2) := by decide +kernel
theorem dX6_init_80 : decode cX6_init 80 = .ok (.putfield 39, 3) := by decide +kernel
theorem dX6_init_83 : decode cX6_init 83 = .ok (.aload_n 0, 1) := by decide +kernel
theorem dX6_init_84 : decode cX6_init 84 = .ok (.bipush 30, 2) := by decide +kernel
theorem dX6_init_86 : decode cX6_init 86 = .ok (.newarray .int, 2) := by decide +kernel
theorem dX6_init_88 : decode cX6_init 88 = .ok (.putfield 42, 3) := by decide +kernel
theorem dX6_init_91 : decode cX6_init 91 = .ok (.aload_n 0, 1) := by decide +kernel
theorem dX6_init_92 : decode cX6_init 92 = .ok (.bipush 30, 2) := by decide +kernel
theorem dX6_init_94 : decode cX6_init 94 = .ok (.newarray .char, 2) := by decide +kernel
theorem dX6_init_96 : decode cX6_init 96 = .ok (.putfield 45, 3) := by decide +kernel
theorem dX6_init_99 : decode cX6_init 99 = .ok (.return_, 1) := by decide +kernel
theorem dX6_thrown_0 : decode cX6_thrown 0 = .ok (.aload_n 0, 1) := by decide +kernel
theorem dX6_thrown_1 : decode cX6_thrown 1 = .ok (.getfield 48, 3) := by decide +kernel
theorem dX6_thrown_4 : decode cX6_thrown 4 = .ok (.ireturn, 1) := by decide +kernel
theorem dX6_in_0 : decode cX6_in 0 = .ok (.iload_n 0, 1) := by decide +kernel
theorem dX6_in_1 : decode cX6_in 1 = .ok (.iload_n 1, 1) := by decide +kernel
theorem dX6_in_2 : decode cX6_in 2 = .ok (.if_icmp .lt 12, 3) := by decide +kernel
theorem dX6_in_5 : decode cX6_in 5 = .ok (.iload_n 0, 1) := by decide +kernel
theorem dX6_in_6 : decode cX6_in 6 = .ok (.iload_n 2, 1) := by decide +kernel
theorem dX6_in_7 : decode cX6_in 7 = .ok (.if_icmp .gt 7, 3) := by decide +kernel
theorem dX6_in_10 : decode cX6_in 10 = .ok (.iconst 1, 1) := by decide +kernel
theorem dX6_in_11 : decode cX6_in 11 = .ok (.goto 4, 3) := by decide +kernel
theorem dX6_in_14 : decode cX6_in 14 = .ok (.iconst 0, 1) := by decide +kernel
theorem dX6_in_15 : decode cX6_in 15 = .ok (.ireturn, 1) := by decide +kernel
theorem dX6_fails_0 : decode cX6_fails 0 = .ok (.aload_n 0, 1) := by decide +kernel
theorem dX6_fails_1 : decode cX6_fails 1 = .ok (.iload_n 1, 1) := by decide +kernel
theorem dX6_fails_2 : decode cX6_fails 2 = .ok (.putfield 48, 3) := by decide +kernel
theorem dX6_fails_5 : decode cX6_fails 5 = .ok (.iconst 0, 1) := by decide +kernel
theorem dX6_fails_6 : decode cX6_fails 6 = .ok (.ireturn, 1) := by decide +kernel
theorem dX6_isBox_0 : decode cX6_isBox 0 = .ok (.iload_n 1, 1) := by decide +kernel
theorem dX6_isBox_1 : decode cX6_isBox 1 = .ok (.iconst 0, 1) := by decide +kernel
theorem dX6_isBox_2 : decode cX6_isBox 2 = .ok (.aload_n 0, 1) := by decide +kernel
theorem dX6_isBox_3 : decode cX6_isBox 3 = .ok (.getfield 52, 3) := by decide +kernel
theorem dX6_isBox_6 : decode cX6_isBox 6 = .ok (.iconst 1, 1) := by decide +kernel
theorem dX6_isBox_7 : decode cX6_isBox 7 = .ok (.isub, 1) := by decide +kernel
theorem dX6_isBox_8 : decode cX6_isBox 8 = .ok (.invokestatic 55, 3) := by decide +kernel
theorem dX6_isBox_11 : decode cX6_isBox 11 = .ok (.ifCond .eq 16, 3) := by decide +kernel
theorem dX6_isBox_14 : decode cX6_isBox 14 = .ok (.aload_n 0, 1) := by decide +kernel
theorem dX6_isBox_15 : decode cX6_isBox 15 = .ok (.getfield 16, 3) := by decide +kernel
theorem dX6_isBox_18 : decode cX6_isBox 18 = .ok (.iload_n 1, 1) := by decide +kernel
theorem dX6_isBox_19 : decode cX6_isBox 19 = .ok (.baload, 1) := by decide +kernel
theorem dX6_isBox_20 : decode cX6_isBox 20 = .ok (.ifCond .eq 7, 3) := by decide +kernel
theorem dX6_isBox_23 : decode cX6_isBox 23 = .ok (.iconst 1, 1) := by decide +kernel
theorem dX6_isBox_24 : decode cX6_isBox 24 = .ok (.goto 4, 3) := by decide +kernel
theorem dX6_isBox_27 : decode cX6_isBox 27 = .ok (.iconst 0, 1) := by decide +kernel
theorem dX6_isBox_28 : decode cX6_isBox 28 = .ok (.ireturn, 1) := by decide +kernel
theorem dX6_isStack_0 : decode cX6_isStack 0 = .ok (.iload_n 1, 1) := by decide +kernel
theorem dX6_isStack_1 : decode cX6_isStack 1 = .ok (.iconst 0, 1) := by decide +kernel
theorem dX6_isStack_2 : decode cX6_isStack 2 = .ok (.aload_n 0, 1) := by decide +kernel
theorem dX6_isStack_3 : decode cX6_isStack 3 = .ok (.getfield 59, 3) := by decide +kernel
theorem dX6_isStack_6 : decode cX6_isStack 6 = .ok (.iconst 1, 1) := by decide +kernel
theorem dX6_isStack_7 : decode cX6_isStack 7 = .ok (.isub, 1) := by decide +kernel
theorem dX6_isStack_8 : decode cX6_isStack 8 = .ok (.invokestatic 55, 3) := by decide +kernel
theorem dX6_isStack_11 : decode cX6_isStack 11 = .ok (.ireturn, 1) := by decide +kernel
theorem dX6_isPinned_0 : decode cX6_isPinned 0 = .ok (.aload_n 0, 1) := by decide +kernel
theorem dX6_isPinned_1 : decode cX6_isPinned 1 = .ok (.getfield 20, 3) := by decide +kernel
theorem dX6_isPinned_4 : decode cX6_isPinned 4 = .ok (.iload_n 1, 1) := by decide +kernel
theorem dX6_isPinned_5 : decode cX6_isPinned 5 = .ok (.caload, 1) := by decide +kernel
theorem dX6_isPinned_6 : decode cX6_isPinned 6 = .ok (.bipush 112, 2) := by decide +kernel
theorem dX6_isPinned_8 : decode cX6_isPinned 8 = .ok (.if_icmp .ne 7, 3) := by decide +kernel
theorem dX6_isPinned_11 : decode cX6_isPinned 11 = .ok (.iconst 1, 1) := by decide +kernel
theorem dX6_isPinned_12 : decode cX6_isPinned 12 = .ok (.goto 4, 3) := by decide +kernel
theorem dX6_isPinned_15 : decode cX6_isPinned 15 = .ok (.iconst 0, 1) := by decide +kernel
theorem dX6_isPinned_16 : decode cX6_isPinned 16 = .ok (.ireturn, 1) := by decide +kernel
theorem dX6_placeOf_0 : decode cX6_placeOf 0 = .ok (.iconst 0, 1) := by decide +kernel
theorem dX6_placeOf_1 : decode cX6_placeOf 1 = .ok (.istore_n 3, 1) := by decide +kernel
theorem dX6_placeOf_2 : decode cX6_placeOf 2 = .ok (.iload_n 3, 1) := by decide +kernel
theorem dX6_placeOf_3 : decode cX6_placeOf 3 = .ok (.aload_n 0, 1) := by decide +kernel
theorem dX6_placeOf_4 : decode cX6_placeOf 4 = .ok (.getfield 59, 3) := by decide +kernel
theorem dX6_placeOf_7 : decode cX6_placeOf 7 = .ok (.if_icmp .ge 55, 3) := by decide +kernel
theorem dX6_placeOf_10 : decode cX6_placeOf 10 = .ok (.iconst 0, 1) := by decide +kernel
theorem dX6_placeOf_11 : decode cX6_placeOf 11 = .ok (.istore 4, 2) := by decide +kernel
theorem dX6_placeOf_13 : decode cX6_placeOf 13 = .ok (.iload 4, 2) := by decide +kernel
theorem dX6_placeOf_15 : decode cX6_placeOf 15 = .ok (.aload_n 0, 1) := by decide +kernel
theorem dX6_placeOf_16 : decode cX6_placeOf 16 = .ok (.getfield 27, 3) := by decide +kernel
theorem dX6_placeOf_19 : decode cX6_placeOf 19 = .ok (.iconst 4, 1) := by decide +kernel
theorem dX6_placeOf_20 : decode cX6_placeOf 20 = .ok (.iload_n 1, 1) := by decide +kernel
theorem dX6_placeOf_21 : decode cX6_placeOf 21 = .ok (.imul, 1) := by decide +kernel
theorem dX6_placeOf_22 : decode cX6_placeOf 22 = .ok (.iload_n 3, 1) := by decide +kernel
theorem dX6_placeOf_23 : decode cX6_placeOf 23 = .ok (.iadd, 1) := by decide +kernel
theorem dX6_placeOf_24 : decode cX6_placeOf 24 = .ok (.iaload, 1) := by decide +kernel
theorem dX6_placeOf_25 : decode cX6_placeOf 25 = .ok (.if_icmp .ge 31, 3) := by decide +kernel
theorem dX6_placeOf_28 : decode cX6_placeOf 28 = .ok (.aload_n 0, 1) := by decide +kernel
theorem dX6_placeOf_29 : decode cX6_placeOf 29 = .ok (.getfield 30, 3) := by decide +kernel
theorem dX6_placeOf_32 : decode cX6_placeOf 32 = .ok (.bipush 16, 2) := by decide +kernel
theorem dX6_placeOf_34 : decode cX6_placeOf 34 = .ok (.iload_n 1, 1) := by decide +kernel
theorem dX6_placeOf_35 : decode cX6_placeOf 35 = .ok (.imul, 1) := by decide +kernel
theorem dX6_placeOf_36 : decode cX6_placeOf 36 = .ok (.iconst 4, 1) := by decide +kernel
theorem dX6_placeOf_37 : decode cX6_placeOf 37 = .ok (.iload_n 3, 1) := by decide +kernel
theorem dX6_placeOf_38 : decode cX6_placeOf 38 = .ok (.imul, 1) := by decide +kernel
theorem dX6_placeOf_39 : decode cX6_placeOf 39 = .ok (.iadd, 1) := by decide +kernel
theorem dX6_placeOf_40 : decode cX6_placeOf 40 = .ok (.iload 4, 2) := by decide +kernel
theorem dX6_placeOf_42 : decode cX6_placeOf 42 = .ok (.iadd, 1) := by decide +kernel
theorem dX6_placeOf_43 : decode cX6_placeOf 43 = .ok (.iaload, 1) := by decide +kernel
theorem dX6_placeOf_44 : decode cX6_placeOf 44 = .ok (.iload_n 2, 1) := by decide +kernel
theorem dX6_placeOf_45 : decode cX6_placeOf 45 = .ok (.if_icmp .ne 5, 3) := by decide +kernel
theorem dX6_placeOf_48 : decode cX6_placeOf 48 = .ok (.iload_n 3, 1) := by decide +kernel
theorem dX6_placeOf_49 : decode cX6_placeOf 49 = .ok (.ireturn, 1) := by decide +kernel
theorem dX6_placeOf_50 : decode cX6_placeOf 50 = .ok (.iinc 4 1, 3) := by decide +kernel
theorem dX6_placeOf_53 : decode cX6_placeOf 53 = .ok (.goto (-40), 3) := by decide +kernel
theorem dX6_placeOf_56 : decode cX6_placeOf 56 = .ok (.iinc 3 1, 3) := by decide +kernel
theorem dX6_placeOf_59 : decode cX6_placeOf 59 = .ok (.goto (-57), 3) := by decide +kernel
theorem dX6_placeOf_62 : decode cX6_placeOf 62 = .ok (.iconst (-1), 1) := by decide +kernel
theorem dX6_placeOf_63 : decode cX6_placeOf 63 = .ok (.ireturn, 1) := by decide +kernel
theorem dX6_levelOf_0 : decode cX6_levelOf 0 = .ok (.aload_n 0, 1) := by decide +kernel
theorem dX6_levelOf_1 : decode cX6_levelOf 1 = .ok (.iload_n 1, 1) := by decide +kernel
theorem dX6_levelOf_2 : decode cX6_levelOf 2 = .ok (.iload_n 2, 1) := by decide +kernel
theorem dX6_levelOf_3 : decode cX6_levelOf 3 = .ok (.invokevirtual 62, 3) := by decide +kernel
theorem dX6_levelOf_6 : decode cX6_levelOf 6 = .ok (.istore_n 3, 1) := by decide +kernel
theorem dX6_levelOf_7 : decode cX6_levelOf 7 = .ok (.iconst 0, 1) := by decide +kernel
theorem dX6_levelOf_8 : decode cX6_levelOf 8 = .ok (.istore 4, 2) := by decide +kernel
theorem dX6_levelOf_10 : decode cX6_levelOf 10 = .ok (.aload_n 0, 1) := by decide +kernel
theorem dX6_levelOf_11 : decode cX6_levelOf 11 = .ok (.getfield 30, 3) := by decide +kernel
theorem dX6_levelOf_14 : decode cX6_levelOf 14 = .ok (.bipush 16, 2) := by decide +kernel
theorem dX6_levelOf_16 : decode cX6_levelOf 16 = .ok (.iload_n 1, 1) := by decide +kernel
theorem dX6_levelOf_17 : decode cX6_levelOf 17 = .ok (.imul, 1) := by decide +kernel
theorem dX6_levelOf_18 : decode cX6_levelOf 18 = .ok (.iconst 4, 1) := by decide +kernel
theorem dX6_levelOf_19 : decode cX6_levelOf 19 = .ok (.iload_n 3, 1) := by decide +kernel
theorem dX6_levelOf_20 : decode cX6_levelOf 20 = .ok (.imul, 1) := by decide +kernel
theorem dX6_levelOf_21 : decode cX6_levelOf 21 = .ok (.iadd, 1) := by decide +kernel
theorem dX6_levelOf_22 : decode cX6_levelOf 22 = .ok (.iload 4, 2) := by decide +kernel
theorem dX6_levelOf_24 : decode cX6_levelOf 24 = .ok (.iadd, 1) := by decide +kernel
theorem dX6_levelOf_25 : decode cX6_levelOf 25 = .ok (.iaload, 1) := by decide +kernel
theorem dX6_levelOf_26 : decode cX6_levelOf 26 = .ok (.iload_n 2, 1) := by decide +kernel
theorem dX6_levelOf_27 : decode cX6_levelOf 27 = .ok (.if_icmp .eq 9, 3) := by decide +kernel
theorem dX6_levelOf_30 : decode cX6_levelOf 30 = .ok (.iinc 4 1, 3) := by decide +kernel
theorem dX6_levelOf_33 : decode cX6_levelOf 33 = .ok (.goto (-23), 3) := by decide +kernel
theorem dX6_levelOf_36 : decode cX6_levelOf 36 = .ok (.iload 4, 2) := by decide +kernel
theorem dX6_levelOf_38 : decode cX6_levelOf 38 = .ok (.ireturn, 1) := by decide +kernel
theorem dX6_topOf_0 : decode cX6_topOf 0 = .ok (.aload_n 0, 1) := by decide +kernel
theorem dX6_topOf_1 : decode cX6_topOf 1 = .ok (.getfield 27, 3) := by decide +kernel
theorem dX6_topOf_4 : decode cX6_topOf 4 = .ok (.iconst 4, 1) := by decide +kernel
theorem dX6_topOf_5 : decode cX6_topOf 5 = .ok (.iload_n 1, 1) := by decide +kernel
theorem dX6_topOf_6 : decode cX6_topOf 6 = .ok (.imul, 1) := by decide +kernel
theorem dX6_topOf_7 : decode cX6_topOf 7 = .ok (.iload_n 2, 1) := by decide +kernel
theorem dX6_topOf_8 : decode cX6_topOf 8 = .ok (.iadd, 1) := by decide +kernel
theorem dX6_topOf_9 : decode cX6_topOf 9 = .ok (.iaload, 1) := by decide +kernel
theorem dX6_topOf_10 : decode cX6_topOf 10 = .ok (.istore_n 3, 1) := by decide +kernel
theorem dX6_topOf_11 : decode cX6_topOf 11 = .ok (.iload_n 3, 1) := by decide +kernel
theorem dX6_topOf_12 : decode cX6_topOf 12 = .ok (.ifCond .ne 7, 3) := by decide +kernel
theorem dX6_topOf_15 : decode cX6_topOf 15 = .ok (.iconst (-1), 1) := by decide +kernel
theorem dX6_topOf_16 : decode cX6_topOf 16 = .ok (.goto 20, 3) := by decide +kernel
theorem dX6_topOf_19 : decode cX6_topOf 19 = .ok (.aload_n 0, 1) := by decide +kernel
theorem dX6_topOf_20 : decode cX6_topOf 20 = .ok (.getfield 30, 3) := by decide +kernel
theorem dX6_topOf_23 : decode cX6_topOf 23 = .ok (.bipush 16, 2) := by decide +kernel
theorem dX6_topOf_25 : decode cX6_topOf 25 = .ok (.iload_n 1, 1) := by decide +kernel
theorem dX6_topOf_26 : decode cX6_topOf 26 = .ok (.imul, 1) := by decide +kernel
theorem dX6_topOf_27 : decode cX6_topOf 27 = .ok (.iconst 4, 1) := by decide +kernel
theorem dX6_topOf_28 : decode cX6_topOf 28 = .ok (.iload_n 2, 1) := by decide +kernel
theorem dX6_topOf_29 : decode cX6_topOf 29 = .ok (.imul, 1) := by decide +kernel
theorem dX6_topOf_30 : decode cX6_topOf 30 = .ok (.iadd, 1) := by decide +kernel
theorem dX6_topOf_31 : decode cX6_topOf 31 = .ok (.iload_n 3, 1) := by decide +kernel
theorem dX6_topOf_32 : decode cX6_topOf 32 = .ok (.iadd, 1) := by decide +kernel
theorem dX6_topOf_33 : decode cX6_topOf 33 = .ok (.iconst 1, 1) := by decide +kernel
theorem dX6_topOf_34 : decode cX6_topOf 34 = .ok (.isub, 1) := by decide +kernel
theorem dX6_topOf_35 : decode cX6_topOf 35 = .ok (.iaload, 1) := by decide +kernel
theorem dX6_topOf_36 : decode cX6_topOf 36 = .ok (.ireturn, 1) := by decide +kernel
theorem dX6_isTop_0 : decode cX6_isTop 0 = .ok (.aload_n 0, 1) := by decide +kernel
theorem dX6_isTop_1 : decode cX6_isTop 1 = .ok (.iload_n 1, 1) := by decide +kernel
theorem dX6_isTop_2 : decode cX6_isTop 2 = .ok (.aload_n 0, 1) := by decide +kernel
theorem dX6_isTop_3 : decode cX6_isTop 3 = .ok (.iload_n 1, 1) := by decide +kernel
theorem dX6_isTop_4 : decode cX6_isTop 4 = .ok (.iload_n 2, 1) := by decide +kernel
theorem dX6_isTop_5 : decode cX6_isTop 5 = .ok (.invokevirtual 62, 3) := by decide +kernel
theorem dX6_isTop_8 : decode cX6_isTop 8 = .ok (.invokevirtual 66, 3) := by decide +kernel
theorem dX6_isTop_11 : decode cX6_isTop 11 = .ok (.iload_n 2, 1) := by decide +kernel
theorem dX6_isTop_12 : decode cX6_isTop 12 = .ok (.if_icmp .ne 7, 3) := by decide +kernel
theorem dX6_isTop_15 : decode cX6_isTop 15 = .ok (.iconst 1, 1) := by decide +kernel
theorem dX6_isTop_16 : decode cX6_isTop 16 = .ok (.goto 4, 3) := by decide +kernel
theorem dX6_isTop_19 : decode cX6_isTop 19 = .ok (.iconst 0, 1) := by decide +kernel
theorem dX6_isTop_20 : decode cX6_isTop 20 = .ok (.ireturn, 1) := by decide +kernel
theorem dX6_takes_0 : decode cX6_takes 0 = .ok (.aload_n 0, 1) := by decide +kernel
theorem dX6_takes_1 : decode cX6_takes 1 = .ok (.getfield 27, 3) := by decide +kernel
theorem dX6_takes_4 : decode cX6_takes 4 = .ok (.iconst 4, 1) := by decide +kernel
theorem dX6_takes_5 : decode cX6_takes 5 = .ok (.iload_n 1, 1) := by decide +kernel
theorem dX6_takes_6 : decode cX6_takes 6 = .ok (.imul, 1) := by decide +kernel
theorem dX6_takes_7 : decode cX6_takes 7 = .ok (.iload_n 2, 1) := by decide +kernel
theorem dX6_takes_8 : decode cX6_takes 8 = .ok (.iadd, 1) := by decide +kernel
theorem dX6_takes_9 : decode cX6_takes 9 = .ok (.iaload, 1) := by decide +kernel
theorem dX6_takes_10 : decode cX6_takes 10 = .ok (.aload_n 0, 1) := by decide +kernel
theorem dX6_takes_11 : decode cX6_takes 11 = .ok (.getfield 7, 3) := by decide +kernel
theorem dX6_takes_14 : decode cX6_takes 14 = .ok (.iload_n 2, 1) := by decide +kernel
theorem dX6_takes_15 : decode cX6_takes 15 = .ok (.iaload, 1) := by decide +kernel
theorem dX6_takes_16 : decode cX6_takes 16 = .ok (.if_icmp .ge 35, 3) := by decide +kernel
theorem dX6_takes_19 : decode cX6_takes 19 = .ok (.aload_n 0, 1) := by decide +kernel
theorem dX6_takes_20 : decode cX6_takes 20 = .ok (.getfield 27, 3) := by decide +kernel
theorem dX6_takes_23 : decode cX6_takes 23 = .ok (.iconst 4, 1) := by decide +kernel
theorem dX6_takes_24 : decode cX6_takes 24 = .ok (.iload_n 1, 1) := by decide +kernel
theorem dX6_takes_25 : decode cX6_takes 25 = .ok (.imul, 1) := by decide +kernel
theorem dX6_takes_26 : decode cX6_takes 26 = .ok (.iload_n 2, 1) := by decide +kernel
theorem dX6_takes_27 : decode cX6_takes 27 = .ok (.iadd, 1) := by decide +kernel
theorem dX6_takes_28 : decode cX6_takes 28 = .ok (.iaload, 1) := by decide +kernel
theorem dX6_takes_29 : decode cX6_takes 29 = .ok (.ifCond .eq 18, 3) := by decide +kernel
theorem dX6_takes_32 : decode cX6_takes 32 = .ok (.aload_n 0, 1) := by decide +kernel
theorem dX6_takes_33 : decode cX6_takes 33 = .ok (.getfield 13, 3) := by decide +kernel
theorem dX6_takes_36 : decode cX6_takes 36 = .ok (.aload_n 0, 1) := by decide +kernel
theorem dX6_takes_37 : decode cX6_takes 37 = .ok (.iload_n 1, 1) := by decide +kernel
theorem dX6_takes_38 : decode cX6_takes 38 = .ok (.iload_n 2, 1) := by decide +kernel
theorem dX6_takes_39 : decode cX6_takes 39 = .ok (.invokevirtual 66, 3) := by decide +kernel
theorem dX6_takes_42 : decode cX6_takes 42 = .ok (.iaload, 1) := by decide +kernel
theorem dX6_takes_43 : decode cX6_takes 43 = .ok (.iload_n 3, 1) := by decide +kernel
theorem dX6_takes_44 : decode cX6_takes 44 = .ok (.if_icmp .lt 7, 3) := by decide +kernel
theorem dX6_takes_47 : decode cX6_takes 47 = .ok (.iconst 1, 1) := by decide +kernel
theorem dX6_takes_48 : decode cX6_takes 48 = .ok (.goto 4, 3) := by decide +kernel
theorem dX6_takes_51 : decode cX6_takes 51 = .ok (.iconst 0, 1) := by decide +kernel
theorem dX6_takes_52 : decode cX6_takes 52 = .ok (.ireturn, 1) := by decide +kernel
theorem dX6_lays_0 : decode cX6_lays 0 = .ok (.aload_n 0, 1) := by decide +kernel
theorem dX6_lays_1 : decode cX6_lays 1 = .ok (.getfield 30, 3) := by decide +kernel
theorem dX6_lays_4 : decode cX6_lays 4 = .ok (.bipush 16, 2) := by decide +kernel
theorem dX6_lays_6 : decode cX6_lays 6 = .ok (.iload_n 1, 1) := by decide +kernel
theorem dX6_lays_7 : decode cX6_lays 7 = .ok (.imul, 1) := by decide +kernel
theorem dX6_lays_8 : decode cX6_lays 8 = .ok (.iconst 4, 1) := by decide +kernel
theorem dX6_lays_9 : decode cX6_lays 9 = .ok (.iload_n 2, 1) := by decide +kernel
theorem dX6_lays_10 : decode cX6_lays 10 = .ok (.imul, 1) := by decide +kernel
theorem dX6_lays_11 : decode cX6_lays 11 = .ok (.iadd, 1) := by decide +kernel
theorem dX6_lays_12 : decode cX6_lays 12 = .ok (.aload_n 0, 1) := by decide +kernel
theorem dX6_lays_13 : decode cX6_lays 13 = .ok (.getfield 27, 3) := by decide +kernel
theorem dX6_lays_16 : decode cX6_lays 16 = .ok (.iconst 4, 1) := by decide +kernel
theorem dX6_lays_17 : decode cX6_lays 17 = .ok (.iload_n 1, 1) := by decide +kernel
theorem dX6_lays_18 : decode cX6_lays 18 = .ok (.imul, 1) := by decide +kernel
theorem dX6_lays_19 : decode cX6_lays 19 = .ok (.iload_n 2, 1) := by decide +kernel
theorem dX6_lays_20 : decode cX6_lays 20 = .ok (.iadd, 1) := by decide +kernel
theorem dX6_lays_21 : decode cX6_lays 21 = .ok (.iaload, 1) := by decide +kernel
theorem dX6_lays_22 : decode cX6_lays 22 = .ok (.iadd, 1) := by decide +kernel
theorem dX6_lays_23 : decode cX6_lays 23 = .ok (.iload_n 3, 1) := by decide +kernel
theorem dX6_lays_24 : decode cX6_lays 24 = .ok (.iastore, 1) := by decide +kernel
theorem dX6_lays_25 : decode cX6_lays 25 = .ok (.aload_n 0, 1) := by decide +kernel
theorem dX6_lays_26 : decode cX6_lays 26 = .ok (.getfield 27, 3) := by decide +kernel
theorem dX6_lays_29 : decode cX6_lays 29 = .ok (.iconst 4, 1) := by decide +kernel
theorem dX6_lays_30 : decode cX6_lays 30 = .ok (.iload_n 1, 1) := by decide +kernel
theorem dX6_lays_31 : decode cX6_lays 31 = .ok (.imul, 1) := by decide +kernel
theorem dX6_lays_32 : decode cX6_lays 32 = .ok (.iload_n 2, 1) := by decide +kernel
theorem dX6_lays_33 : decode cX6_lays 33 = .ok (.iadd, 1) := by decide +kernel
theorem dX6_lays_34 : decode cX6_lays 34 = .ok (.dup2, 1) := by decide +kernel
theorem dX6_lays_35 : decode cX6_lays 35 = .ok (.iaload, 1) := by decide +kernel
theorem dX6_lays_36 : decode cX6_lays 36 = .ok (.iconst 1, 1) := by decide +kernel
theorem dX6_lays_37 : decode cX6_lays 37 = .ok (.iadd, 1) := by decide +kernel
theorem dX6_lays_38 : decode cX6_lays 38 = .ok (.iastore, 1) := by decide +kernel
theorem dX6_lays_39 : decode cX6_lays 39 = .ok (.return_, 1) := by decide +kernel
theorem dX6_canMove_0 : decode cX6_canMove 0 = .ok (.aload_n 0, 1) := by decide +kernel
theorem dX6_canMove_1 : decode cX6_canMove 1 = .ok (.iload_n 1, 1) := by decide +kernel
theorem dX6_canMove_2 : decode cX6_canMove 2 = .ok (.iload_n 2, 1) := by decide +kernel
theorem dX6_canMove_3 : decode cX6_canMove 3 = .ok (.invokevirtual 69, 3) := by decide +kernel
theorem dX6_canMove_6 : decode cX6_canMove 6 = .ok (.ifCond .eq 40, 3) := by decide +kernel
theorem dX6_canMove_9 : decode cX6_canMove 9 = .ok (.aload_n 0, 1) := by decide +kernel
theorem dX6_canMove_10 : decode cX6_canMove 10 = .ok (.iload_n 2, 1) := by decide +kernel
theorem dX6_canMove_11 : decode cX6_canMove 11 = .ok (.invokevirtual 73, 3) := by decide +kernel
theorem dX6_canMove_14 : decode cX6_canMove 14 = .ok (.ifCond .ne 32, 3) := by decide +kernel
theorem dX6_canMove_17 : decode cX6_canMove 17 = .ok (.aload_n 0, 1) := by decide +kernel
theorem dX6_canMove_18 : decode cX6_canMove 18 = .ok (.iload_n 1, 1) := by decide +kernel
theorem dX6_canMove_19 : decode cX6_canMove 19 = .ok (.iload_n 2, 1) := by decide +kernel
theorem dX6_canMove_20 : decode cX6_canMove 20 = .ok (.invokevirtual 62, 3) := by decide +kernel
theorem dX6_canMove_23 : decode cX6_canMove 23 = .ok (.iload_n 3, 1) := by decide +kernel
theorem dX6_canMove_24 : decode cX6_canMove 24 = .ok (.if_icmp .eq 22, 3) := by decide +kernel
theorem dX6_canMove_27 : decode cX6_canMove 27 = .ok (.aload_n 0, 1) := by decide +kernel
theorem dX6_canMove_28 : decode cX6_canMove 28 = .ok (.iload_n 1, 1) := by decide +kernel
theorem dX6_canMove_29 : decode cX6_canMove 29 = .ok (.iload_n 3, 1) := by decide +kernel
theorem dX6_canMove_30 : decode cX6_canMove 30 = .ok (.aload_n 0, 1) := by decide +kernel
theorem dX6_canMove_31 : decode cX6_canMove 31 = .ok (.getfield 13, 3) := by decide +kernel
theorem dX6_canMove_34 : decode cX6_canMove 34 = .ok (.iload_n 2, 1) := by decide +kernel
theorem dX6_canMove_35 : decode cX6_canMove 35 = .ok (.iaload, 1) := by decide +kernel
theorem dX6_canMove_36 : decode cX6_canMove 36 = .ok (.invokevirtual 77, 3) := by decide +kernel
theorem dX6_canMove_39 : decode cX6_canMove 39 = .ok (.ifCond .eq 7, 3) := by decide +kernel
theorem dX6_canMove_42 : decode cX6_canMove 42 = .ok (.iconst 1, 1) := by decide +kernel
theorem dX6_canMove_43 : decode cX6_canMove 43 = .ok (.goto 4, 3) := by decide +kernel
theorem dX6_canMove_46 : decode cX6_canMove 46 = .ok (.iconst 0, 1) := by decide +kernel
theorem dX6_canMove_47 : decode cX6_canMove 47 = .ok (.ireturn, 1) := by decide +kernel
theorem dX6_moves_0 : decode cX6_moves 0 = .ok (.aload_n 0, 1) := by decide +kernel
theorem dX6_moves_1 : decode cX6_moves 1 = .ok (.getfield 27, 3) := by decide +kernel
theorem dX6_moves_4 : decode cX6_moves 4 = .ok (.iconst 4, 1) := by decide +kernel
theorem dX6_moves_5 : decode cX6_moves 5 = .ok (.iload_n 1, 1) := by decide +kernel
theorem dX6_moves_6 : decode cX6_moves 6 = .ok (.imul, 1) := by decide +kernel
theorem dX6_moves_7 : decode cX6_moves 7 = .ok (.aload_n 0, 1) := by decide +kernel
theorem dX6_moves_8 : decode cX6_moves 8 = .ok (.iload_n 1, 1) := by decide +kernel
theorem dX6_moves_9 : decode cX6_moves 9 = .ok (.iload_n 2, 1) := by decide +kernel
theorem dX6_moves_10 : decode cX6_moves 10 = .ok (.invokevirtual 62, 3) := by decide +kernel
theorem dX6_moves_13 : decode cX6_moves 13 = .ok (.iadd, 1) := by decide +kernel
theorem dX6_moves_14 : decode cX6_moves 14 = .ok (.dup2, 1) := by decide +kernel
theorem dX6_moves_15 : decode cX6_moves 15 = .ok (.iaload, 1) := by decide +kernel
theorem dX6_moves_16 : decode cX6_moves 16 = .ok (.iconst 1, 1) := by decide +kernel
theorem dX6_moves_17 : decode cX6_moves 17 = .ok (.isub, 1) := by decide +kernel
theorem dX6_moves_18 : decode cX6_moves 18 = .ok (.iastore, 1) := by decide +kernel
theorem dX6_moves_19 : decode cX6_moves 19 = .ok (.aload_n 0, 1) := by decide +kernel
theorem dX6_moves_20 : decode cX6_moves 20 = .ok (.iload_n 1, 1) := by decide +kernel
theorem dX6_moves_21 : decode cX6_moves 21 = .ok (.iload_n 3, 1) := by decide +kernel
theorem dX6_moves_22 : decode cX6_moves 22 = .ok (.iload_n 2, 1) := by decide +kernel
theorem dX6_moves_23 : decode cX6_moves 23 = .ok (.invokevirtual 80, 3) := by decide +kernel
theorem dX6_moves_26 : decode cX6_moves 26 = .ok (.return_, 1) := by decide +kernel
theorem dX6_copies_0 : decode cX6_copies 0 = .ok (.iconst 0, 1) := by decide +kernel
theorem dX6_copies_1 : decode cX6_copies 1 = .ok (.istore_n 3, 1) := by decide +kernel
theorem dX6_copies_2 : decode cX6_copies 2 = .ok (.iload_n 3, 1) := by decide +kernel
theorem dX6_copies_3 : decode cX6_copies 3 = .ok (.iconst 4, 1) := by decide +kernel
theorem dX6_copies_4 : decode cX6_copies 4 = .ok (.if_icmp .ge 29, 3) := by decide +kernel
theorem dX6_copies_7 : decode cX6_copies 7 = .ok (.aload_n 0, 1) := by decide +kernel
theorem dX6_copies_8 : decode cX6_copies 8 = .ok (.getfield 27, 3) := by decide +kernel
theorem dX6_copies_11 : decode cX6_copies 11 = .ok (.iconst 4, 1) := by decide +kernel
theorem dX6_copies_12 : decode cX6_copies 12 = .ok (.iload_n 2, 1) := by decide +kernel
theorem dX6_copies_13 : decode cX6_copies 13 = .ok (.imul, 1) := by decide +kernel
theorem dX6_copies_14 : decode cX6_copies 14 = .ok (.iload_n 3, 1) := by decide +kernel
theorem dX6_copies_15 : decode cX6_copies 15 = .ok (.iadd, 1) := by decide +kernel
theorem dX6_copies_16 : decode cX6_copies 16 = .ok (.aload_n 0, 1) := by decide +kernel
theorem dX6_copies_17 : decode cX6_copies 17 = .ok (.getfield 27, 3) := by decide +kernel
theorem dX6_copies_20 : decode cX6_copies 20 = .ok (.iconst 4, 1) := by decide +kernel
theorem dX6_copies_21 : decode cX6_copies 21 = .ok (.iload_n 1, 1) := by decide +kernel
theorem dX6_copies_22 : decode cX6_copies 22 = .ok (.imul, 1) := by decide +kernel
theorem dX6_copies_23 : decode cX6_copies 23 = .ok (.iload_n 3, 1) := by decide +kernel
theorem dX6_copies_24 : decode cX6_copies 24 = .ok (.iadd, 1) := by decide +kernel
theorem dX6_copies_25 : decode cX6_copies 25 = .ok (.iaload, 1) := by decide +kernel
theorem dX6_copies_26 : decode cX6_copies 26 = .ok (.iastore, 1) := by decide +kernel
theorem dX6_copies_27 : decode cX6_copies 27 = .ok (.iinc 3 1, 3) := by decide +kernel
theorem dX6_copies_30 : decode cX6_copies 30 = .ok (.goto (-28), 3) := by decide +kernel
theorem dX6_copies_33 : decode cX6_copies 33 = .ok (.iconst 0, 1) := by decide +kernel
theorem dX6_copies_34 : decode cX6_copies 34 = .ok (.istore_n 3, 1) := by decide +kernel
theorem dX6_copies_35 : decode cX6_copies 35 = .ok (.iload_n 3, 1) := by decide +kernel
theorem dX6_copies_36 : decode cX6_copies 36 = .ok (.bipush 16, 2) := by decide +kernel
theorem dX6_copies_38 : decode cX6_copies 38 = .ok (.if_icmp .ge 31, 3) := by decide +kernel
theorem dX6_copies_41 : decode cX6_copies 41 = .ok (.aload_n 0, 1) := by decide +kernel
theorem dX6_copies_42 : decode cX6_copies 42 = .ok (.getfield 30, 3) := by decide +kernel
theorem dX6_copies_45 : decode cX6_copies 45 = .ok (.bipush 16, 2) := by decide +kernel
theorem dX6_copies_47 : decode cX6_copies 47 = .ok (.iload_n 2, 1) := by decide +kernel
theorem dX6_copies_48 : decode cX6_copies 48 = .ok (.imul, 1) := by decide +kernel
theorem dX6_copies_49 : decode cX6_copies 49 = .ok (.iload_n 3, 1) := by decide +kernel
theorem dX6_copies_50 : decode cX6_copies 50 = .ok (.iadd, 1) := by decide +kernel
theorem dX6_copies_51 : decode cX6_copies 51 = .ok (.aload_n 0, 1) := by decide +kernel
theorem dX6_copies_52 : decode cX6_copies 52 = .ok (.getfield 30, 3) := by decide +kernel
theorem dX6_copies_55 : decode cX6_copies 55 = .ok (.bipush 16, 2) := by decide +kernel
theorem dX6_copies_57 : decode cX6_copies 57 = .ok (.iload_n 1, 1) := by decide +kernel
theorem dX6_copies_58 : decode cX6_copies 58 = .ok (.imul, 1) := by decide +kernel
theorem dX6_copies_59 : decode cX6_copies 59 = .ok (.iload_n 3, 1) := by decide +kernel
theorem dX6_copies_60 : decode cX6_copies 60 = .ok (.iadd, 1) := by decide +kernel
theorem dX6_copies_61 : decode cX6_copies 61 = .ok (.iaload, 1) := by decide +kernel
theorem dX6_copies_62 : decode cX6_copies 62 = .ok (.iastore, 1) := by decide +kernel
theorem dX6_copies_63 : decode cX6_copies 63 = .ok (.iinc 3 1, 3) := by decide +kernel
theorem dX6_copies_66 : decode cX6_copies 66 = .ok (.goto (-31), 3) := by decide +kernel
theorem dX6_copies_69 : decode cX6_copies 69 = .ok (.return_, 1) := by decide +kernel
theorem dX6_nextMove_0 : decode cX6_nextMove 0 = .ok (.iload_n 2, 1) := by decide +kernel
theorem dX6_nextMove_1 : decode cX6_nextMove 1 = .ok (.istore 4, 2) := by decide +kernel
theorem dX6_nextMove_3 : decode cX6_nextMove 3 = .ok (.iload 4, 2) := by decide +kernel
theorem dX6_nextMove_5 : decode cX6_nextMove 5 = .ok (.iconst 4, 1) := by decide +kernel
theorem dX6_nextMove_6 : decode cX6_nextMove 6 = .ok (.aload_n 0, 1) := by decide +kernel
theorem dX6_nextMove_7 : decode cX6_nextMove 7 = .ok (.getfield 52, 3) := by decide +kernel
theorem dX6_nextMove_10 : decode cX6_nextMove 10 = .ok (.imul, 1) := by decide +kernel
theorem dX6_nextMove_11 : decode cX6_nextMove 11 = .ok (.if_icmp .ge 59, 3) := by decide +kernel
theorem dX6_nextMove_14 : decode cX6_nextMove 14 = .ok (.iload 4, 2) := by decide +kernel
theorem dX6_nextMove_16 : decode cX6_nextMove 16 = .ok (.iconst 4, 1) := by decide +kernel
theorem dX6_nextMove_17 : decode cX6_nextMove 17 = .ok (.idiv, 1) := by decide +kernel
theorem dX6_nextMove_18 : decode cX6_nextMove 18 = .ok (.iload_n 3, 1) := by decide +kernel
theorem dX6_nextMove_19 : decode cX6_nextMove 19 = .ok (.if_icmp .eq 45, 3) := by decide +kernel
theorem dX6_nextMove_22 : decode cX6_nextMove 22 = .ok (.iload 4, 2) := by decide +kernel
theorem dX6_nextMove_24 : decode cX6_nextMove 24 = .ok (.iconst 4, 1) := by decide +kernel
theorem dX6_nextMove_25 : decode cX6_nextMove 25 = .ok (.irem, 1) := by decide +kernel
theorem dX6_nextMove_26 : decode cX6_nextMove 26 = .ok (.aload_n 0, 1) := by decide +kernel
theorem dX6_nextMove_27 : decode cX6_nextMove 27 = .ok (.getfield 59, 3) := by decide +kernel
theorem dX6_nextMove_30 : decode cX6_nextMove 30 = .ok (.if_icmp .ge 34, 3) := by decide +kernel
theorem dX6_nextMove_33 : decode cX6_nextMove 33 = .ok (.aload_n 0, 1) := by decide +kernel
theorem dX6_nextMove_34 : decode cX6_nextMove 34 = .ok (.getfield 16, 3) := by decide +kernel
theorem dX6_nextMove_37 : decode cX6_nextMove 37 = .ok (.iload 4, 2) := by decide +kernel
theorem dX6_nextMove_39 : decode cX6_nextMove 39 = .ok (.iconst 4, 1) := by decide +kernel
theorem dX6_nextMove_40 : decode cX6_nextMove 40 = .ok (.idiv, 1) := by decide +kernel
theorem dX6_nextMove_41 : decode cX6_nextMove 41 = .ok (.baload, 1) := by decide +kernel
theorem dX6_nextMove_42 : decode cX6_nextMove 42 = .ok (.ifCond .eq 22, 3) := by decide +kernel
theorem dX6_nextMove_45 : decode cX6_nextMove 45 = .ok (.aload_n 0, 1) := by decide +kernel
theorem dX6_nextMove_46 : decode cX6_nextMove 46 = .ok (.iload_n 1, 1) := by decide +kernel
theorem dX6_nextMove_47 : decode cX6_nextMove 47 = .ok (.iload 4, 2) := by decide +kernel
theorem dX6_nextMove_49 : decode cX6_nextMove 49 = .ok (.iconst 4, 1) := by decide +kernel
theorem dX6_nextMove_50 : decode cX6_nextMove 50 = .ok (.idiv, 1) := by decide +kernel
theorem dX6_nextMove_51 : decode cX6_nextMove 51 = .ok (.iload 4, 2) := by decide +kernel
theorem dX6_nextMove_53 : decode cX6_nextMove 53 = .ok (.iconst 4, 1) := by decide +kernel
theorem dX6_nextMove_54 : decode cX6_nextMove 54 = .ok (.irem, 1) := by decide +kernel
theorem dX6_nextMove_55 : decode cX6_nextMove 55 = .ok (.invokevirtual 84, 3) := by decide +kernel
theorem dX6_nextMove_58 : decode cX6_nextMove 58 = .ok (.ifCond .eq 6, 3) := by decide +kernel
theorem dX6_nextMove_61 : decode cX6_nextMove 61 = .ok (.iload 4, 2) := by decide +kernel
theorem dX6_nextMove_63 : decode cX6_nextMove 63 = .ok (.ireturn, 1) := by decide +kernel
theorem dX6_nextMove_64 : decode cX6_nextMove 64 = .ok (.iinc 4 1, 3) := by decide +kernel
theorem dX6_nextMove_67 : decode cX6_nextMove 67 = .ok (.goto (-64), 3) := by decide +kernel
theorem dX6_nextMove_70 : decode cX6_nextMove 70 = .ok (.bipush 80, 2) := by decide +kernel
theorem dX6_nextMove_72 : decode cX6_nextMove 72 = .ok (.ireturn, 1) := by decide +kernel
theorem dX6_finds_0 : decode cX6_finds 0 = .ok (.iconst 0, 1) := by decide +kernel
theorem dX6_finds_1 : decode cX6_finds 1 = .ok (.istore_n 3, 1) := by decide +kernel
theorem dX6_finds_2 : decode cX6_finds 2 = .ok (.iconst 0, 1) := by decide +kernel
theorem dX6_finds_3 : decode cX6_finds 3 = .ok (.istore 4, 2) := by decide +kernel
theorem dX6_finds_5 : decode cX6_finds 5 = .ok (.iload_n 3, 1) := by decide +kernel
theorem dX6_finds_6 : decode cX6_finds 6 = .ok (.ifCond .lt 110, 3) := by decide +kernel
theorem dX6_finds_9 : decode cX6_finds 9 = .ok (.iload_n 3, 1) := by decide +kernel
theorem dX6_finds_10 : decode cX6_finds 10 = .ok (.iload_n 2, 1) := by decide +kernel
theorem dX6_finds_11 : decode cX6_finds 11 = .ok (.if_icmp .ge 14, 3) := by decide +kernel
theorem dX6_finds_14 : decode cX6_finds 14 = .ok (.aload_n 0, 1) := by decide +kernel
theorem dX6_finds_15 : decode cX6_finds 15 = .ok (.iload_n 3, 1) := by decide +kernel
theorem dX6_finds_16 : decode cX6_finds 16 = .ok (.iload 4, 2) := by decide +kernel
theorem dX6_finds_18 : decode cX6_finds 18 = .ok (.iload_n 1, 1) := by decide +kernel
theorem dX6_finds_19 : decode cX6_finds 19 = .ok (.invokevirtual 87, 3) := by decide +kernel
theorem dX6_finds_22 : decode cX6_finds 22 = .ok (.goto 5, 3) := by decide +kernel
theorem dX6_finds_25 : decode cX6_finds 25 = .ok (.bipush 80, 2) := by decide +kernel
theorem dX6_finds_27 : decode cX6_finds 27 = .ok (.istore 5, 2) := by decide +kernel
theorem dX6_finds_29 : decode cX6_finds 29 = .ok (.iload_n 3, 1) := by decide +kernel
theorem dX6_finds_30 : decode cX6_finds 30 = .ok (.iload_n 2, 1) := by decide +kernel
theorem dX6_finds_31 : decode cX6_finds 31 = .ok (.if_icmp .ne 14, 3) := by decide +kernel
theorem dX6_finds_34 : decode cX6_finds 34 = .ok (.aload_n 0, 1) := by decide +kernel
theorem dX6_finds_35 : decode cX6_finds 35 = .ok (.iload_n 3, 1) := by decide +kernel
theorem dX6_finds_36 : decode cX6_finds 36 = .ok (.iload_n 1, 1) := by decide +kernel
theorem dX6_finds_37 : decode cX6_finds 37 = .ok (.invokevirtual 69, 3) := by decide +kernel
theorem dX6_finds_40 : decode cX6_finds 40 = .ok (.ifCond .eq 5, 3) := by decide +kernel
theorem dX6_finds_43 : decode cX6_finds 43 = .ok (.iconst 1, 1) := by decide +kernel
theorem dX6_finds_44 : decode cX6_finds 44 = .ok (.ireturn, 1) := by decide +kernel
theorem dX6_finds_45 : decode cX6_finds 45 = .ok (.iload 5, 2) := by decide +kernel
theorem dX6_finds_47 : decode cX6_finds 47 = .ok (.bipush 80, 2) := by decide +kernel
theorem dX6_finds_49 : decode cX6_finds 49 = .ok (.if_icmp .ge 43, 3) := by decide +kernel
theorem dX6_finds_52 : decode cX6_finds 52 = .ok (.aload_n 0, 1) := by decide +kernel
theorem dX6_finds_53 : decode cX6_finds 53 = .ok (.getfield 33, 3) := by decide +kernel
theorem dX6_finds_56 : decode cX6_finds 56 = .ok (.iload_n 3, 1) := by decide +kernel
theorem dX6_finds_57 : decode cX6_finds 57 = .ok (.iload 5, 2) := by decide +kernel
theorem dX6_finds_59 : decode cX6_finds 59 = .ok (.iastore, 1) := by decide +kernel
theorem dX6_finds_60 : decode cX6_finds 60 = .ok (.aload_n 0, 1) := by decide +kernel
theorem dX6_finds_61 : decode cX6_finds 61 = .ok (.iload_n 3, 1) := by decide +kernel
theorem dX6_finds_62 : decode cX6_finds 62 = .ok (.iload_n 3, 1) := by decide +kernel
theorem dX6_finds_63 : decode cX6_finds 63 = .ok (.iconst 1, 1) := by decide +kernel
theorem dX6_finds_64 : decode cX6_finds 64 = .ok (.iadd, 1) := by decide +kernel
theorem dX6_finds_65 : decode cX6_finds 65 = .ok (.invokevirtual 91, 3) := by decide +kernel
theorem dX6_finds_68 : decode cX6_finds 68 = .ok (.aload_n 0, 1) := by decide +kernel
theorem dX6_finds_69 : decode cX6_finds 69 = .ok (.iload_n 3, 1) := by decide +kernel
theorem dX6_finds_70 : decode cX6_finds 70 = .ok (.iconst 1, 1) := by decide +kernel
theorem dX6_finds_71 : decode cX6_finds 71 = .ok (.iadd, 1) := by decide +kernel
theorem dX6_finds_72 : decode cX6_finds 72 = .ok (.iload 5, 2) := by decide +kernel
theorem dX6_finds_74 : decode cX6_finds 74 = .ok (.iconst 4, 1) := by decide +kernel
theorem dX6_finds_75 : decode cX6_finds 75 = .ok (.idiv, 1) := by decide +kernel
theorem dX6_finds_76 : decode cX6_finds 76 = .ok (.iload 5, 2) := by decide +kernel
theorem dX6_finds_78 : decode cX6_finds 78 = .ok (.iconst 4, 1) := by decide +kernel
theorem dX6_finds_79 : decode cX6_finds 79 = .ok (.irem, 1) := by decide +kernel
theorem dX6_finds_80 : decode cX6_finds 80 = .ok (.invokevirtual 95, 3) := by decide +kernel
theorem dX6_finds_83 : decode cX6_finds 83 = .ok (.iinc 3 1, 3) := by decide +kernel
theorem dX6_finds_86 : decode cX6_finds 86 = .ok (.iconst 0, 1) := by decide +kernel
theorem dX6_finds_87 : decode cX6_finds 87 = .ok (.istore 4, 2) := by decide +kernel
theorem dX6_finds_89 : decode cX6_finds 89 = .ok (.goto 24, 3) := by decide +kernel
theorem dX6_finds_92 : decode cX6_finds 92 = .ok (.iinc 3 (-1), 3) := by decide +kernel
theorem dX6_finds_95 : decode cX6_finds 95 = .ok (.iload_n 3, 1) := by decide +kernel
theorem dX6_finds_96 : decode cX6_finds 96 = .ok (.ifCond .ge 7, 3) := by decide +kernel
theorem dX6_finds_99 : decode cX6_finds 99 = .ok (.iconst 0, 1) := by decide +kernel
theorem dX6_finds_100 : decode cX6_finds 100 = .ok (.goto 11, 3) := by decide +kernel
theorem dX6_finds_103 : decode cX6_finds 103 = .ok (.aload_n 0, 1) := by decide +kernel
theorem dX6_finds_104 : decode cX6_finds 104 = .ok (.getfield 33, 3) := by decide +kernel
theorem dX6_finds_107 : decode cX6_finds 107 = .ok (.iload_n 3, 1) := by decide +kernel
theorem dX6_finds_108 : decode cX6_finds 108 = .ok (.iaload, 1) := by decide +kernel
theorem dX6_finds_109 : decode cX6_finds 109 = .ok (.iconst 1, 1) := by decide +kernel
theorem dX6_finds_110 : decode cX6_finds 110 = .ok (.iadd, 1) := by decide +kernel
theorem dX6_finds_111 : decode cX6_finds 111 = .ok (.istore 4, 2) := by decide +kernel
theorem dX6_finds_113 : decode cX6_finds 113 = .ok (.goto (-108), 3) := by decide +kernel
theorem dX6_finds_116 : decode cX6_finds 116 = .ok (.iconst 0, 1) := by decide +kernel
theorem dX6_finds_117 : decode cX6_finds 117 = .ok (.ireturn, 1) := by decide +kernel
theorem dX6_aboveOf_0 : decode cX6_aboveOf 0 = .ok (.aload_n 0, 1) := by decide +kernel
theorem dX6_aboveOf_1 : decode cX6_aboveOf 1 = .ok (.getfield 27, 3) := by decide +kernel
theorem dX6_aboveOf_4 : decode cX6_aboveOf 4 = .ok (.aload_n 0, 1) := by decide +kernel
theorem dX6_aboveOf_5 : decode cX6_aboveOf 5 = .ok (.iconst 0, 1) := by decide +kernel
theorem dX6_aboveOf_6 : decode cX6_aboveOf 6 = .ok (.iload_n 1, 1) := by decide +kernel
theorem dX6_aboveOf_7 : decode cX6_aboveOf 7 = .ok (.invokevirtual 62, 3) := by decide +kernel
theorem dX6_aboveOf_10 : decode cX6_aboveOf 10 = .ok (.iaload, 1) := by decide +kernel
theorem dX6_aboveOf_11 : decode cX6_aboveOf 11 = .ok (.aload_n 0, 1) := by decide +kernel
theorem dX6_aboveOf_12 : decode cX6_aboveOf 12 = .ok (.iconst 0, 1) := by decide +kernel
theorem dX6_aboveOf_13 : decode cX6_aboveOf 13 = .ok (.iload_n 1, 1) := by decide +kernel
theorem dX6_aboveOf_14 : decode cX6_aboveOf 14 = .ok (.invokevirtual 98, 3) := by decide +kernel
theorem dX6_aboveOf_17 : decode cX6_aboveOf 17 = .ok (.isub, 1) := by decide +kernel
theorem dX6_aboveOf_18 : decode cX6_aboveOf 18 = .ok (.iconst 1, 1) := by decide +kernel
theorem dX6_aboveOf_19 : decode cX6_aboveOf 19 = .ok (.isub, 1) := by decide +kernel
theorem dX6_aboveOf_20 : decode cX6_aboveOf 20 = .ok (.ireturn, 1) := by decide +kernel
theorem dX6_plans_0 : decode cX6_plans 0 = .ok (.iconst 0, 1) := by decide +kernel
theorem dX6_plans_1 : decode cX6_plans 1 = .ok (.istore_n 2, 1) := by decide +kernel
theorem dX6_plans_2 : decode cX6_plans 2 = .ok (.iload_n 2, 1) := by decide +kernel
theorem dX6_plans_3 : decode cX6_plans 3 = .ok (.aload_n 0, 1) := by decide +kernel
theorem dX6_plans_4 : decode cX6_plans 4 = .ok (.iload_n 1, 1) := by decide +kernel
theorem dX6_plans_5 : decode cX6_plans 5 = .ok (.invokevirtual 101, 3) := by decide +kernel
theorem dX6_plans_8 : decode cX6_plans 8 = .ok (.iconst 1, 1) := by decide +kernel
theorem dX6_plans_9 : decode cX6_plans 9 = .ok (.iadd, 1) := by decide +kernel
theorem dX6_plans_10 : decode cX6_plans 10 = .ok (.if_icmp .gt 20, 3) := by decide +kernel
theorem dX6_plans_13 : decode cX6_plans 13 = .ok (.aload_n 0, 1) := by decide +kernel
theorem dX6_plans_14 : decode cX6_plans 14 = .ok (.iload_n 1, 1) := by decide +kernel
theorem dX6_plans_15 : decode cX6_plans 15 = .ok (.iload_n 2, 1) := by decide +kernel
theorem dX6_plans_16 : decode cX6_plans 16 = .ok (.invokevirtual 105, 3) := by decide +kernel
theorem dX6_plans_19 : decode cX6_plans 19 = .ok (.ifCond .eq 5, 3) := by decide +kernel
theorem dX6_plans_22 : decode cX6_plans 22 = .ok (.iload_n 2, 1) := by decide +kernel
theorem dX6_plans_23 : decode cX6_plans 23 = .ok (.ireturn, 1) := by decide +kernel
theorem dX6_plans_24 : decode cX6_plans 24 = .ok (.iinc 2 1, 3) := by decide +kernel
theorem dX6_plans_27 : decode cX6_plans 27 = .ok (.goto (-25), 3) := by decide +kernel
theorem dX6_plans_30 : decode cX6_plans 30 = .ok (.iconst (-1), 1) := by decide +kernel
theorem dX6_plans_31 : decode cX6_plans 31 = .ok (.ireturn, 1) := by decide +kernel
theorem dX6_makes_0 : decode cX6_makes 0 = .ok (.iconst 0, 1) := by decide +kernel
theorem dX6_makes_1 : decode cX6_makes 1 = .ok (.istore_n 2, 1) := by decide +kernel
theorem dX6_makes_2 : decode cX6_makes 2 = .ok (.iload_n 2, 1) := by decide +kernel
theorem dX6_makes_3 : decode cX6_makes 3 = .ok (.iload_n 1, 1) := by decide +kernel
theorem dX6_makes_4 : decode cX6_makes 4 = .ok (.if_icmp .ge 40, 3) := by decide +kernel
theorem dX6_makes_7 : decode cX6_makes 7 = .ok (.aload_n 0, 1) := by decide +kernel
theorem dX6_makes_8 : decode cX6_makes 8 = .ok (.iconst 0, 1) := by decide +kernel
theorem dX6_makes_9 : decode cX6_makes 9 = .ok (.aload_n 0, 1) := by decide +kernel
theorem dX6_makes_10 : decode cX6_makes 10 = .ok (.getfield 33, 3) := by decide +kernel
theorem dX6_makes_13 : decode cX6_makes 13 = .ok (.iload_n 2, 1) := by decide +kernel
theorem dX6_makes_14 : decode cX6_makes 14 = .ok (.iaload, 1) := by decide +kernel
theorem dX6_makes_15 : decode cX6_makes 15 = .ok (.iconst 4, 1) := by decide +kernel
theorem dX6_makes_16 : decode cX6_makes 16 = .ok (.idiv, 1) := by decide +kernel
theorem dX6_makes_17 : decode cX6_makes 17 = .ok (.aload_n 0, 1) := by decide +kernel
theorem dX6_makes_18 : decode cX6_makes 18 = .ok (.getfield 33, 3) := by decide +kernel
theorem dX6_makes_21 : decode cX6_makes 21 = .ok (.iload_n 2, 1) := by decide +kernel
theorem dX6_makes_22 : decode cX6_makes 22 = .ok (.iaload, 1) := by decide +kernel
theorem dX6_makes_23 : decode cX6_makes 23 = .ok (.iconst 4, 1) := by decide +kernel
theorem dX6_makes_24 : decode cX6_makes 24 = .ok (.irem, 1) := by decide +kernel
theorem dX6_makes_25 : decode cX6_makes 25 = .ok (.invokevirtual 95, 3) := by decide +kernel
theorem dX6_makes_28 : decode cX6_makes 28 = .ok (.aload_n 0, 1) := by decide +kernel
theorem dX6_makes_29 : decode cX6_makes 29 = .ok (.dup, 1) := by decide +kernel
theorem dX6_makes_30 : decode cX6_makes 30 = .ok (.getfield 108, 3) := by decide +kernel
theorem dX6_makes_33 : decode cX6_makes 33 = .ok (.iconst 1, 1) := by decide +kernel
theorem dX6_makes_34 : decode cX6_makes 34 = .ok (.iadd, 1) := by decide +kernel
theorem dX6_makes_35 : decode cX6_makes 35 = .ok (.putfield 108, 3) := by decide +kernel
theorem dX6_makes_38 : decode cX6_makes 38 = .ok (.iinc 2 1, 3) := by decide +kernel
theorem dX6_makes_41 : decode cX6_makes 41 = .ok (.goto (-39), 3) := by decide +kernel
theorem dX6_makes_44 : decode cX6_makes 44 = .ok (.return_, 1) := by decide +kernel
theorem dX6_addStack_0 : decode cX6_addStack 0 = .ok (.aload_n 0, 1) := by decide +kernel
theorem dX6_addStack_1 : decode cX6_addStack 1 = .ok (.iconst 0, 1) := by decide +kernel
theorem dX6_addStack_2 : decode cX6_addStack 2 = .ok (.putfield 48, 3) := by decide +kernel
theorem dX6_addStack_5 : decode cX6_addStack 5 = .ok (.iload_n 1, 1) := by decide +kernel
theorem dX6_addStack_6 : decode cX6_addStack 6 = .ok (.iconst 1, 1) := by decide +kernel
theorem dX6_addStack_7 : decode cX6_addStack 7 = .ok (.iconst 4, 1) := by decide +kernel
theorem dX6_addStack_8 : decode cX6_addStack 8 = .ok (.invokestatic 55, 3) := by decide +kernel
theorem dX6_addStack_11 : decode cX6_addStack 11 = .ok (.ifCond .ne 9, 3) := by decide +kernel
theorem dX6_addStack_14 : decode cX6_addStack 14 = .ok (.aload_n 0, 1) := by decide +kernel
theorem dX6_addStack_15 : decode cX6_addStack 15 = .ok (.iconst 1, 1) := by decide +kernel
theorem dX6_addStack_16 : decode cX6_addStack 16 = .ok (.invokevirtual 110, 3) := by decide +kernel
theorem dX6_addStack_19 : decode cX6_addStack 19 = .ok (.ireturn, 1) := by decide +kernel
theorem dX6_addStack_20 : decode cX6_addStack 20 = .ok (.aload_n 0, 1) := by decide +kernel
theorem dX6_addStack_21 : decode cX6_addStack 21 = .ok (.getfield 59, 3) := by decide +kernel
theorem dX6_addStack_24 : decode cX6_addStack 24 = .ok (.iconst 4, 1) := by decide +kernel
theorem dX6_addStack_25 : decode cX6_addStack 25 = .ok (.if_icmp .ne 9, 3) := by decide +kernel
theorem dX6_addStack_28 : decode cX6_addStack 28 = .ok (.aload_n 0, 1) := by decide +kernel
theorem dX6_addStack_29 : decode cX6_addStack 29 = .ok (.iconst 2, 1) := by decide +kernel
theorem dX6_addStack_30 : decode cX6_addStack 30 = .ok (.invokevirtual 110, 3) := by decide +kernel
theorem dX6_addStack_33 : decode cX6_addStack 33 = .ok (.ireturn, 1) := by decide +kernel
theorem dX6_addStack_34 : decode cX6_addStack 34 = .ok (.aload_n 0, 1) := by decide +kernel
theorem dX6_addStack_35 : decode cX6_addStack 35 = .ok (.getfield 7, 3) := by decide +kernel
theorem dX6_addStack_38 : decode cX6_addStack 38 = .ok (.aload_n 0, 1) := by decide +kernel
theorem dX6_addStack_39 : decode cX6_addStack 39 = .ok (.getfield 59, 3) := by decide +kernel
theorem dX6_addStack_42 : decode cX6_addStack 42 = .ok (.iload_n 1, 1) := by decide +kernel
theorem dX6_addStack_43 : decode cX6_addStack 43 = .ok (.iastore, 1) := by decide +kernel
theorem dX6_addStack_44 : decode cX6_addStack 44 = .ok (.aload_n 0, 1) := by decide +kernel
theorem dX6_addStack_45 : decode cX6_addStack 45 = .ok (.dup, 1) := by decide +kernel
theorem dX6_addStack_46 : decode cX6_addStack 46 = .ok (.getfield 59, 3) := by decide +kernel
theorem dX6_addStack_49 : decode cX6_addStack 49 = .ok (.iconst 1, 1) := by decide +kernel
theorem dX6_addStack_50 : decode cX6_addStack 50 = .ok (.iadd, 1) := by decide +kernel
theorem dX6_addStack_51 : decode cX6_addStack 51 = .ok (.putfield 59, 3) := by decide +kernel
theorem dX6_addStack_54 : decode cX6_addStack 54 = .ok (.aload_n 0, 1) := by decide +kernel
theorem dX6_addStack_55 : decode cX6_addStack 55 = .ok (.getfield 59, 3) := by decide +kernel
theorem dX6_addStack_58 : decode cX6_addStack 58 = .ok (.iconst 1, 1) := by decide +kernel
theorem dX6_addStack_59 : decode cX6_addStack 59 = .ok (.isub, 1) := by decide +kernel
theorem dX6_addStack_60 : decode cX6_addStack 60 = .ok (.ireturn, 1) := by decide +kernel
theorem dX6_insideNow_0 : decode cX6_insideNow 0 = .ok (.iconst 0, 1) := by decide +kernel
theorem dX6_insideNow_1 : decode cX6_insideNow 1 = .ok (.istore_n 1, 1) := by decide +kernel
theorem dX6_insideNow_2 : decode cX6_insideNow 2 = .ok (.iconst 0, 1) := by decide +kernel
theorem dX6_insideNow_3 : decode cX6_insideNow 3 = .ok (.istore_n 2, 1) := by decide +kernel
theorem dX6_insideNow_4 : decode cX6_insideNow 4 = .ok (.iload_n 2, 1) := by decide +kernel
theorem dX6_insideNow_5 : decode cX6_insideNow 5 = .ok (.aload_n 0, 1) := by decide +kernel
theorem dX6_insideNow_6 : decode cX6_insideNow 6 = .ok (.getfield 52, 3) := by decide +kernel
theorem dX6_insideNow_9 : decode cX6_insideNow 9 = .ok (.if_icmp .ge 26, 3) := by decide +kernel
theorem dX6_insideNow_12 : decode cX6_insideNow 12 = .ok (.iload_n 1, 1) := by decide +kernel
theorem dX6_insideNow_13 : decode cX6_insideNow 13 = .ok (.aload_n 0, 1) := by decide +kernel
theorem dX6_insideNow_14 : decode cX6_insideNow 14 = .ok (.getfield 16, 3) := by decide +kernel
theorem dX6_insideNow_17 : decode cX6_insideNow 17 = .ok (.iload_n 2, 1) := by decide +kernel
theorem dX6_insideNow_18 : decode cX6_insideNow 18 = .ok (.baload, 1) := by decide +kernel
theorem dX6_insideNow_19 : decode cX6_insideNow 19 = .ok (.ifCond .eq 7, 3) := by decide +kernel
theorem dX6_insideNow_22 : decode cX6_insideNow 22 = .ok (.iconst 1, 1) := by decide +kernel
theorem dX6_insideNow_23 : decode cX6_insideNow 23 = .ok (.goto 4, 3) := by decide +kernel
theorem dX6_insideNow_26 : decode cX6_insideNow 26 = .ok (.iconst 0, 1) := by decide +kernel
theorem dX6_insideNow_27 : decode cX6_insideNow 27 = .ok (.iadd, 1) := by decide +kernel
theorem dX6_insideNow_28 : decode cX6_insideNow 28 = .ok (.istore_n 1, 1) := by decide +kernel
theorem dX6_insideNow_29 : decode cX6_insideNow 29 = .ok (.iinc 2 1, 3) := by decide +kernel
theorem dX6_insideNow_32 : decode cX6_insideNow 32 = .ok (.goto (-28), 3) := by decide +kernel
theorem dX6_insideNow_35 : decode cX6_insideNow 35 = .ok (.iload_n 1, 1) := by decide +kernel
theorem dX6_insideNow_36 : decode cX6_insideNow 36 = .ok (.ireturn, 1) := by decide +kernel
theorem dX6_addBox_0 : decode cX6_addBox 0 = .ok (.aload_n 0, 1) := by decide +kernel
theorem dX6_addBox_1 : decode cX6_addBox 1 = .ok (.iconst 0, 1) := by decide +kernel
theorem dX6_addBox_2 : decode cX6_addBox 2 = .ok (.putfield 48, 3) := by decide +kernel
theorem dX6_addBox_5 : decode cX6_addBox 5 = .ok (.aload_n 0, 1) := by decide +kernel
theorem dX6_addBox_6 : decode cX6_addBox 6 = .ok (.iload_n 2, 1) := by decide +kernel
theorem dX6_addBox_7 : decode cX6_addBox 7 = .ok (.invokevirtual 113, 3) := by decide +kernel
theorem dX6_addBox_10 : decode cX6_addBox 10 = .ok (.ifCond .ne 9, 3) := by decide +kernel
theorem dX6_addBox_13 : decode cX6_addBox 13 = .ok (.aload_n 0, 1) := by decide +kernel
theorem dX6_addBox_14 : decode cX6_addBox 14 = .ok (.iconst 1, 1) := by decide +kernel
theorem dX6_addBox_15 : decode cX6_addBox 15 = .ok (.invokevirtual 110, 3) := by decide +kernel
theorem dX6_addBox_18 : decode cX6_addBox 18 = .ok (.ireturn, 1) := by decide +kernel
theorem dX6_addBox_19 : decode cX6_addBox 19 = .ok (.iload_n 1, 1) := by decide +kernel
theorem dX6_addBox_20 : decode cX6_addBox 20 = .ok (.iconst 1, 1) := by decide +kernel
theorem dX6_addBox_21 : decode cX6_addBox 21 = .ok (.bipush 30, 2) := by decide +kernel
theorem dX6_addBox_23 : decode cX6_addBox 23 = .ok (.invokestatic 55, 3) := by decide +kernel
theorem dX6_addBox_26 : decode cX6_addBox 26 = .ok (.ifCond .ne 9, 3) := by decide +kernel
theorem dX6_addBox_29 : decode cX6_addBox 29 = .ok (.aload_n 0, 1) := by decide +kernel
theorem dX6_addBox_30 : decode cX6_addBox 30 = .ok (.iconst 2, 1) := by decide +kernel
theorem dX6_addBox_31 : decode cX6_addBox 31 = .ok (.invokevirtual 110, 3) := by decide +kernel
theorem dX6_addBox_34 : decode cX6_addBox 34 = .ok (.ireturn, 1) := by decide +kernel
theorem dX6_addBox_35 : decode cX6_addBox 35 = .ok (.aload_n 0, 1) := by decide +kernel
theorem dX6_addBox_36 : decode cX6_addBox 36 = .ok (.iconst 0, 1) := by decide +kernel
theorem dX6_addBox_37 : decode cX6_addBox 37 = .ok (.iload_n 2, 1) := by decide +kernel
theorem dX6_addBox_38 : decode cX6_addBox 38 = .ok (.iload_n 1, 1) := by decide +kernel
theorem dX6_addBox_39 : decode cX6_addBox 39 = .ok (.invokevirtual 77, 3) := by decide +kernel
theorem dX6_addBox_42 : decode cX6_addBox 42 = .ok (.ifCond .ne 9, 3) := by decide +kernel
theorem dX6_addBox_45 : decode cX6_addBox 45 = .ok (.aload_n 0, 1) := by decide +kernel
theorem dX6_addBox_46 : decode cX6_addBox 46 = .ok (.iconst 3, 1) := by decide +kernel
theorem dX6_addBox_47 : decode cX6_addBox 47 = .ok (.invokevirtual 110, 3) := by decide +kernel
theorem dX6_addBox_50 : decode cX6_addBox 50 = .ok (.ireturn, 1) := by decide +kernel
theorem dX6_addBox_51 : decode cX6_addBox 51 = .ok (.aload_n 0, 1) := by decide +kernel
theorem dX6_addBox_52 : decode cX6_addBox 52 = .ok (.invokevirtual 116, 3) := by decide +kernel
theorem dX6_addBox_55 : decode cX6_addBox 55 = .ok (.bipush 8, 2) := by decide +kernel
theorem dX6_addBox_57 : decode cX6_addBox 57 = .ok (.if_icmp .eq 12, 3) := by decide +kernel
theorem dX6_addBox_60 : decode cX6_addBox 60 = .ok (.aload_n 0, 1) := by decide +kernel
theorem dX6_addBox_61 : decode cX6_addBox 61 = .ok (.getfield 52, 3) := by decide +kernel
theorem dX6_addBox_64 : decode cX6_addBox 64 = .ok (.bipush 20, 2) := by decide +kernel
theorem dX6_addBox_66 : decode cX6_addBox 66 = .ok (.if_icmp .ne 9, 3) := by decide +kernel
theorem dX6_addBox_69 : decode cX6_addBox 69 = .ok (.aload_n 0, 1) := by decide +kernel
theorem dX6_addBox_70 : decode cX6_addBox 70 = .ok (.iconst 4, 1) := by decide +kernel
theorem dX6_addBox_71 : decode cX6_addBox 71 = .ok (.invokevirtual 110, 3) := by decide +kernel
theorem dX6_addBox_74 : decode cX6_addBox 74 = .ok (.ireturn, 1) := by decide +kernel
theorem dX6_addBox_75 : decode cX6_addBox 75 = .ok (.aload_n 0, 1) := by decide +kernel
theorem dX6_addBox_76 : decode cX6_addBox 76 = .ok (.getfield 13, 3) := by decide +kernel
theorem dX6_addBox_79 : decode cX6_addBox 79 = .ok (.aload_n 0, 1) := by decide +kernel
theorem dX6_addBox_80 : decode cX6_addBox 80 = .ok (.getfield 52, 3) := by decide +kernel
theorem dX6_addBox_83 : decode cX6_addBox 83 = .ok (.iload_n 1, 1) := by decide +kernel
theorem dX6_addBox_84 : decode cX6_addBox 84 = .ok (.iastore, 1) := by decide +kernel
theorem dX6_addBox_85 : decode cX6_addBox 85 = .ok (.aload_n 0, 1) := by decide +kernel
theorem dX6_addBox_86 : decode cX6_addBox 86 = .ok (.getfield 16, 3) := by decide +kernel
theorem dX6_addBox_89 : decode cX6_addBox 89 = .ok (.aload_n 0, 1) := by decide +kernel
theorem dX6_addBox_90 : decode cX6_addBox 90 = .ok (.getfield 52, 3) := by decide +kernel
theorem dX6_addBox_93 : decode cX6_addBox 93 = .ok (.iconst 1, 1) := by decide +kernel
theorem dX6_addBox_94 : decode cX6_addBox 94 = .ok (.bastore, 1) := by decide +kernel
theorem dX6_addBox_95 : decode cX6_addBox 95 = .ok (.aload_n 0, 1) := by decide +kernel
theorem dX6_addBox_96 : decode cX6_addBox 96 = .ok (.getfield 20, 3) := by decide +kernel
theorem dX6_addBox_99 : decode cX6_addBox 99 = .ok (.aload_n 0, 1) := by decide +kernel
theorem dX6_addBox_100 : decode cX6_addBox 100 = .ok (.getfield 52, 3) := by decide +kernel
theorem dX6_addBox_103 : decode cX6_addBox 103 = .ok (.bipush 45, 2) := by decide +kernel
theorem dX6_addBox_105 : decode cX6_addBox 105 = .ok (.castore, 1) := by decide +kernel
theorem dX6_addBox_106 : decode cX6_addBox 106 = .ok (.aload_n 0, 1) := by decide +kernel
theorem dX6_addBox_107 : decode cX6_addBox 107 = .ok (.iconst 0, 1) := by decide +kernel
theorem dX6_addBox_108 : decode cX6_addBox 108 = .ok (.iload_n 2, 1) := by decide +kernel
theorem dX6_addBox_109 : decode cX6_addBox 109 = .ok (.aload_n 0, 1) := by decide +kernel
theorem dX6_addBox_110 : decode cX6_addBox 110 = .ok (.getfield 52, 3) := by decide +kernel
theorem dX6_addBox_113 : decode cX6_addBox 113 = .ok (.invokevirtual 80, 3) := by decide +kernel
theorem dX6_addBox_116 : decode cX6_addBox 116 = .ok (.aload_n 0, 1) := by decide +kernel
theorem dX6_addBox_117 : decode cX6_addBox 117 = .ok (.dup, 1) := by decide +kernel
theorem dX6_addBox_118 : decode cX6_addBox 118 = .ok (.getfield 52, 3) := by decide +kernel
theorem dX6_addBox_121 : decode cX6_addBox 121 = .ok (.iconst 1, 1) := by decide +kernel
theorem dX6_addBox_122 : decode cX6_addBox 122 = .ok (.iadd, 1) := by decide +kernel
theorem dX6_addBox_123 : decode cX6_addBox 123 = .ok (.putfield 52, 3) := by decide +kernel
theorem dX6_addBox_126 : decode cX6_addBox 126 = .ok (.aload_n 0, 1) := by decide +kernel
theorem dX6_addBox_127 : decode cX6_addBox 127 = .ok (.getfield 52, 3) := by decide +kernel
theorem dX6_addBox_130 : decode cX6_addBox 130 = .ok (.iconst 1, 1) := by decide +kernel
theorem dX6_addBox_131 : decode cX6_addBox 131 = .ok (.isub, 1) := by decide +kernel
theorem dX6_addBox_132 : decode cX6_addBox 132 = .ok (.ireturn, 1) := by decide +kernel
theorem dX6_boxes_0 : decode cX6_boxes 0 = .ok (.aload_n 0, 1) := by decide +kernel
theorem dX6_boxes_1 : decode cX6_boxes 1 = .ok (.iconst 0, 1) := by decide +kernel
theorem dX6_boxes_2 : decode cX6_boxes 2 = .ok (.putfield 48, 3) := by decide +kernel
theorem dX6_boxes_5 : decode cX6_boxes 5 = .ok (.aload_n 0, 1) := by decide +kernel
theorem dX6_boxes_6 : decode cX6_boxes 6 = .ok (.invokevirtual 116, 3) := by decide +kernel
theorem dX6_boxes_9 : decode cX6_boxes 9 = .ok (.ireturn, 1) := by decide +kernel
theorem dX6_isInYard_0 : decode cX6_isInYard 0 = .ok (.aload_n 0, 1) := by decide +kernel
theorem dX6_isInYard_1 : decode cX6_isInYard 1 = .ok (.iconst 0, 1) := by decide +kernel
theorem dX6_isInYard_2 : decode cX6_isInYard 2 = .ok (.putfield 48, 3) := by decide +kernel
theorem dX6_isInYard_5 : decode cX6_isInYard 5 = .ok (.aload_n 0, 1) := by decide +kernel
theorem dX6_isInYard_6 : decode cX6_isInYard 6 = .ok (.iload_n 1, 1) := by decide +kernel
theorem dX6_isInYard_7 : decode cX6_isInYard 7 = .ok (.invokevirtual 120, 3) := by decide +kernel
theorem dX6_isInYard_10 : decode cX6_isInYard 10 = .ok (.ireturn, 1) := by decide +kernel
theorem dX6_weight_0 : decode cX6_weight 0 = .ok (.aload_n 0, 1) := by decide +kernel
theorem dX6_weight_1 : decode cX6_weight 1 = .ok (.iconst 0, 1) := by decide +kernel
theorem dX6_weight_2 : decode cX6_weight 2 = .ok (.putfield 48, 3) := by decide +kernel
theorem dX6_weight_5 : decode cX6_weight 5 = .ok (.aload_n 0, 1) := by decide +kernel
theorem dX6_weight_6 : decode cX6_weight 6 = .ok (.iload_n 1, 1) := by decide +kernel
theorem dX6_weight_7 : decode cX6_weight 7 = .ok (.invokevirtual 120, 3) := by decide +kernel
theorem dX6_weight_10 : decode cX6_weight 10 = .ok (.ifCond .eq 12, 3) := by decide +kernel
theorem dX6_weight_13 : decode cX6_weight 13 = .ok (.aload_n 0, 1) := by decide +kernel
theorem dX6_weight_14 : decode cX6_weight 14 = .ok (.getfield 13, 3) := by decide +kernel
theorem dX6_weight_17 : decode cX6_weight 17 = .ok (.iload_n 1, 1) := by decide +kernel
theorem dX6_weight_18 : decode cX6_weight 18 = .ok (.iaload, 1) := by decide +kernel
theorem dX6_weight_19 : decode cX6_weight 19 = .ok (.goto 8, 3) := by decide +kernel
theorem dX6_weight_22 : decode cX6_weight 22 = .ok (.aload_n 0, 1) := by decide +kernel
theorem dX6_weight_23 : decode cX6_weight 23 = .ok (.iconst 1, 1) := by decide +kernel
theorem dX6_weight_24 : decode cX6_weight 24 = .ok (.invokevirtual 110, 3) := by decide +kernel
theorem dX6_weight_27 : decode cX6_weight 27 = .ok (.ireturn, 1) := by decide +kernel
theorem dX6_stackOf_0 : decode cX6_stackOf 0 = .ok (.aload_n 0, 1) := by decide +kernel
theorem dX6_stackOf_1 : decode cX6_stackOf 1 = .ok (.iconst 0, 1) := by decide +kernel
theorem dX6_stackOf_2 : decode cX6_stackOf 2 = .ok (.putfield 48, 3) := by decide +kernel
theorem dX6_stackOf_5 : decode cX6_stackOf 5 = .ok (.aload_n 0, 1) := by decide +kernel
theorem dX6_stackOf_6 : decode cX6_stackOf 6 = .ok (.iload_n 1, 1) := by decide +kernel
theorem dX6_stackOf_7 : decode cX6_stackOf 7 = .ok (.invokevirtual 120, 3) := by decide +kernel
theorem dX6_stackOf_10 : decode cX6_stackOf 10 = .ok (.ifCond .eq 12, 3) := by decide +kernel
theorem dX6_stackOf_13 : decode cX6_stackOf 13 = .ok (.aload_n 0, 1) := by decide +kernel
theorem dX6_stackOf_14 : decode cX6_stackOf 14 = .ok (.iconst 0, 1) := by decide +kernel
theorem dX6_stackOf_15 : decode cX6_stackOf 15 = .ok (.iload_n 1, 1) := by decide +kernel
theorem dX6_stackOf_16 : decode cX6_stackOf 16 = .ok (.invokevirtual 62, 3) := by decide +kernel
theorem dX6_stackOf_19 : decode cX6_stackOf 19 = .ok (.goto 8, 3) := by decide +kernel
theorem dX6_stackOf_22 : decode cX6_stackOf 22 = .ok (.aload_n 0, 1) := by decide +kernel
theorem dX6_stackOf_23 : decode cX6_stackOf 23 = .ok (.iconst 1, 1) := by decide +kernel
theorem dX6_stackOf_24 : decode cX6_stackOf 24 = .ok (.invokevirtual 110, 3) := by decide +kernel
theorem dX6_stackOf_27 : decode cX6_stackOf 27 = .ok (.ireturn, 1) := by decide +kernel
theorem dX6_level_0 : decode cX6_level 0 = .ok (.aload_n 0, 1) := by decide +kernel
theorem dX6_level_1 : decode cX6_level 1 = .ok (.iconst 0, 1) := by decide +kernel
theorem dX6_level_2 : decode cX6_level 2 = .ok (.putfield 48, 3) := by decide +kernel
theorem dX6_level_5 : decode cX6_level 5 = .ok (.aload_n 0, 1) := by decide +kernel
theorem dX6_level_6 : decode cX6_level 6 = .ok (.iload_n 1, 1) := by decide +kernel
theorem dX6_level_7 : decode cX6_level 7 = .ok (.invokevirtual 120, 3) := by decide +kernel
theorem dX6_level_10 : decode cX6_level 10 = .ok (.ifCond .eq 12, 3) := by decide +kernel
theorem dX6_level_13 : decode cX6_level 13 = .ok (.aload_n 0, 1) := by decide +kernel
theorem dX6_level_14 : decode cX6_level 14 = .ok (.iconst 0, 1) := by decide +kernel
theorem dX6_level_15 : decode cX6_level 15 = .ok (.iload_n 1, 1) := by decide +kernel
theorem dX6_level_16 : decode cX6_level 16 = .ok (.invokevirtual 98, 3) := by decide +kernel
theorem dX6_level_19 : decode cX6_level 19 = .ok (.goto 8, 3) := by decide +kernel
theorem dX6_level_22 : decode cX6_level 22 = .ok (.aload_n 0, 1) := by decide +kernel
theorem dX6_level_23 : decode cX6_level 23 = .ok (.iconst 1, 1) := by decide +kernel
theorem dX6_level_24 : decode cX6_level 24 = .ok (.invokevirtual 110, 3) := by decide +kernel
theorem dX6_level_27 : decode cX6_level 27 = .ok (.ireturn, 1) := by decide +kernel
theorem dX6_above_0 : decode cX6_above 0 = .ok (.aload_n 0, 1) := by decide +kernel
theorem dX6_above_1 : decode cX6_above 1 = .ok (.iconst 0, 1) := by decide +kernel
theorem dX6_above_2 : decode cX6_above 2 = .ok (.putfield 48, 3) := by decide +kernel
theorem dX6_above_5 : decode cX6_above 5 = .ok (.aload_n 0, 1) := by decide +kernel
theorem dX6_above_6 : decode cX6_above 6 = .ok (.iload_n 1, 1) := by decide +kernel
theorem dX6_above_7 : decode cX6_above 7 = .ok (.invokevirtual 120, 3) := by decide +kernel
theorem dX6_above_10 : decode cX6_above 10 = .ok (.ifCond .eq 11, 3) := by decide +kernel
theorem dX6_above_13 : decode cX6_above 13 = .ok (.aload_n 0, 1) := by decide +kernel
theorem dX6_above_14 : decode cX6_above 14 = .ok (.iload_n 1, 1) := by decide +kernel
theorem dX6_above_15 : decode cX6_above 15 = .ok (.invokevirtual 101, 3) := by decide +kernel
theorem dX6_above_18 : decode cX6_above 18 = .ok (.goto 8, 3) := by decide +kernel
theorem dX6_above_21 : decode cX6_above 21 = .ok (.aload_n 0, 1) := by decide +kernel
theorem dX6_above_22 : decode cX6_above 22 = .ok (.iconst 1, 1) := by decide +kernel
theorem dX6_above_23 : decode cX6_above 23 = .ok (.invokevirtual 110, 3) := by decide +kernel
theorem dX6_above_26 : decode cX6_above 26 = .ok (.ireturn, 1) := by decide +kernel
theorem dX6_height_0 : decode cX6_height 0 = .ok (.aload_n 0, 1) := by decide +kernel
theorem dX6_height_1 : decode cX6_height 1 = .ok (.iconst 0, 1) := by decide +kernel
theorem dX6_height_2 : decode cX6_height 2 = .ok (.putfield 48, 3) := by decide +kernel
theorem dX6_height_5 : decode cX6_height 5 = .ok (.aload_n 0, 1) := by decide +kernel
theorem dX6_height_6 : decode cX6_height 6 = .ok (.iload_n 1, 1) := by decide +kernel
theorem dX6_height_7 : decode cX6_height 7 = .ok (.invokevirtual 113, 3) := by decide +kernel
theorem dX6_height_10 : decode cX6_height 10 = .ok (.ifCond .eq 12, 3) := by decide +kernel
theorem dX6_height_13 : decode cX6_height 13 = .ok (.aload_n 0, 1) := by decide +kernel
theorem dX6_height_14 : decode cX6_height 14 = .ok (.getfield 27, 3) := by decide +kernel
theorem dX6_height_17 : decode cX6_height 17 = .ok (.iload_n 1, 1) := by decide +kernel
theorem dX6_height_18 : decode cX6_height 18 = .ok (.iaload, 1) := by decide +kernel
theorem dX6_height_19 : decode cX6_height 19 = .ok (.goto 8, 3) := by decide +kernel
theorem dX6_height_22 : decode cX6_height 22 = .ok (.aload_n 0, 1) := by decide +kernel
theorem dX6_height_23 : decode cX6_height 23 = .ok (.iconst 1, 1) := by decide +kernel
theorem dX6_height_24 : decode cX6_height 24 = .ok (.invokevirtual 110, 3) := by decide +kernel
theorem dX6_height_27 : decode cX6_height 27 = .ok (.ireturn, 1) := by decide +kernel
theorem dX6_boxAt_0 : decode cX6_boxAt 0 = .ok (.aload_n 0, 1) := by decide +kernel
theorem dX6_boxAt_1 : decode cX6_boxAt 1 = .ok (.iconst 0, 1) := by decide +kernel
theorem dX6_boxAt_2 : decode cX6_boxAt 2 = .ok (.putfield 48, 3) := by decide +kernel
theorem dX6_boxAt_5 : decode cX6_boxAt 5 = .ok (.aload_n 0, 1) := by decide +kernel
theorem dX6_boxAt_6 : decode cX6_boxAt 6 = .ok (.iload_n 1, 1) := by decide +kernel
theorem dX6_boxAt_7 : decode cX6_boxAt 7 = .ok (.invokevirtual 113, 3) := by decide +kernel
theorem dX6_boxAt_10 : decode cX6_boxAt 10 = .ok (.ifCond .ne 9, 3) := by decide +kernel
theorem dX6_boxAt_13 : decode cX6_boxAt 13 = .ok (.aload_n 0, 1) := by decide +kernel
theorem dX6_boxAt_14 : decode cX6_boxAt 14 = .ok (.iconst 1, 1) := by decide +kernel
theorem dX6_boxAt_15 : decode cX6_boxAt 15 = .ok (.invokevirtual 110, 3) := by decide +kernel
theorem dX6_boxAt_18 : decode cX6_boxAt 18 = .ok (.ireturn, 1) := by decide +kernel
theorem dX6_boxAt_19 : decode cX6_boxAt 19 = .ok (.iload_n 2, 1) := by decide +kernel
theorem dX6_boxAt_20 : decode cX6_boxAt 20 = .ok (.iconst 0, 1) := by decide +kernel
theorem dX6_boxAt_21 : decode cX6_boxAt 21 = .ok (.aload_n 0, 1) := by decide +kernel
theorem dX6_boxAt_22 : decode cX6_boxAt 22 = .ok (.getfield 27, 3) := by decide +kernel
theorem dX6_boxAt_25 : decode cX6_boxAt 25 = .ok (.iload_n 1, 1) := by decide +kernel
theorem dX6_boxAt_26 : decode cX6_boxAt 26 = .ok (.iaload, 1) := by decide +kernel
theorem dX6_boxAt_27 : decode cX6_boxAt 27 = .ok (.iconst 1, 1) := by decide +kernel
theorem dX6_boxAt_28 : decode cX6_boxAt 28 = .ok (.isub, 1) := by decide +kernel
theorem dX6_boxAt_29 : decode cX6_boxAt 29 = .ok (.invokestatic 55, 3) := by decide +kernel
theorem dX6_boxAt_32 : decode cX6_boxAt 32 = .ok (.ifCond .eq 16, 3) := by decide +kernel
theorem dX6_boxAt_35 : decode cX6_boxAt 35 = .ok (.aload_n 0, 1) := by decide +kernel
theorem dX6_boxAt_36 : decode cX6_boxAt 36 = .ok (.getfield 30, 3) := by decide +kernel
theorem dX6_boxAt_39 : decode cX6_boxAt 39 = .ok (.iconst 4, 1) := by decide +kernel
theorem dX6_boxAt_40 : decode cX6_boxAt 40 = .ok (.iload_n 1, 1) := by decide +kernel
theorem dX6_boxAt_41 : decode cX6_boxAt 41 = .ok (.imul, 1) := by decide +kernel
theorem dX6_boxAt_42 : decode cX6_boxAt 42 = .ok (.iload_n 2, 1) := by decide +kernel
theorem dX6_boxAt_43 : decode cX6_boxAt 43 = .ok (.iadd, 1) := by decide +kernel
theorem dX6_boxAt_44 : decode cX6_boxAt 44 = .ok (.iaload, 1) := by decide +kernel
theorem dX6_boxAt_45 : decode cX6_boxAt 45 = .ok (.goto 8, 3) := by decide +kernel
theorem dX6_boxAt_48 : decode cX6_boxAt 48 = .ok (.aload_n 0, 1) := by decide +kernel
theorem dX6_boxAt_49 : decode cX6_boxAt 49 = .ok (.iconst 2, 1) := by decide +kernel
theorem dX6_boxAt_50 : decode cX6_boxAt 50 = .ok (.invokevirtual 110, 3) := by decide +kernel
theorem dX6_boxAt_53 : decode cX6_boxAt 53 = .ok (.ireturn, 1) := by decide +kernel
theorem dX6_appointmentIn_0 : decode cX6_appointmentIn 0 = .ok (.iconst 0, 1) := by decide +kernel
theorem dX6_appointmentIn_1 : decode cX6_appointmentIn 1 = .ok (.istore_n 2, 1) := by decide +kernel
theorem dX6_appointmentIn_2 : decode cX6_appointmentIn 2 = .ok (.iload_n 2, 1) := by decide +kernel
theorem dX6_appointmentIn_3 : decode cX6_appointmentIn 3 = .ok (.aload_n 0, 1) := by decide +kernel
theorem dX6_appointmentIn_4 : decode cX6_appointmentIn 4 = .ok (.getfield 123, 3) := by decide +kernel
theorem dX6_appointmentIn_7 : decode cX6_appointmentIn 7 = .ok (.if_icmp .ge 32, 3) := by decide +kernel
theorem dX6_appointmentIn_10 : decode cX6_appointmentIn 10 = .ok (.aload_n 0, 1) := by decide +kernel
theorem dX6_appointmentIn_11 : decode cX6_appointmentIn 11 = .ok (.getfield 36, 3) := by decide +kernel
theorem dX6_appointmentIn_14 : decode cX6_appointmentIn 14 = .ok (.iload_n 2, 1) := by decide +kernel
theorem dX6_appointmentIn_15 : decode cX6_appointmentIn 15 = .ok (.iaload, 1) := by decide +kernel
theorem dX6_appointmentIn_16 : decode cX6_appointmentIn 16 = .ok (.iload_n 1, 1) := by decide +kernel
theorem dX6_appointmentIn_17 : decode cX6_appointmentIn 17 = .ok (.if_icmp .ne 16, 3) := by decide +kernel
theorem dX6_appointmentIn_20 : decode cX6_appointmentIn 20 = .ok (.aload_n 0, 1) := by decide +kernel
theorem dX6_appointmentIn_21 : decode cX6_appointmentIn 21 = .ok (.getfield 45, 3) := by decide +kernel
theorem dX6_appointmentIn_24 : decode cX6_appointmentIn 24 = .ok (.iload_n 2, 1) := by decide +kernel
theorem dX6_appointmentIn_25 : decode cX6_appointmentIn 25 = .ok (.caload, 1) := by decide +kernel
theorem dX6_appointmentIn_26 : decode cX6_appointmentIn 26 = .ok (.bipush 98, 2) := by decide +kernel
theorem dX6_appointmentIn_28 : decode cX6_appointmentIn 28 = .ok (.if_icmp .ne 5, 3) := by decide +kernel
theorem dX6_appointmentIn_31 : decode cX6_appointmentIn 31 = .ok (.iload_n 2, 1) := by decide +kernel
theorem dX6_appointmentIn_32 : decode cX6_appointmentIn 32 = .ok (.ireturn, 1) := by decide +kernel
theorem dX6_appointmentIn_33 : decode cX6_appointmentIn 33 = .ok (.iinc 2 1, 3) := by decide +kernel
theorem dX6_appointmentIn_36 : decode cX6_appointmentIn 36 = .ok (.goto (-34), 3) := by decide +kernel
theorem dX6_appointmentIn_39 : decode cX6_appointmentIn 39 = .ok (.iconst (-1), 1) := by decide +kernel
theorem dX6_appointmentIn_40 : decode cX6_appointmentIn 40 = .ok (.ireturn, 1) := by decide +kernel
theorem dX6_hold_0 : decode cX6_hold 0 = .ok (.aload_n 0, 1) := by decide +kernel
theorem dX6_hold_1 : decode cX6_hold 1 = .ok (.iconst 0, 1) := by decide +kernel
theorem dX6_hold_2 : decode cX6_hold 2 = .ok (.putfield 48, 3) := by decide +kernel
theorem dX6_hold_5 : decode cX6_hold 5 = .ok (.aload_n 0, 1) := by decide +kernel
theorem dX6_hold_6 : decode cX6_hold 6 = .ok (.iload_n 1, 1) := by decide +kernel
theorem dX6_hold_7 : decode cX6_hold 7 = .ok (.invokevirtual 120, 3) := by decide +kernel
theorem dX6_hold_10 : decode cX6_hold 10 = .ok (.ifCond .ne 9, 3) := by decide +kernel
theorem dX6_hold_13 : decode cX6_hold 13 = .ok (.aload_n 0, 1) := by decide +kernel
theorem dX6_hold_14 : decode cX6_hold 14 = .ok (.iconst 1, 1) := by decide +kernel
theorem dX6_hold_15 : decode cX6_hold 15 = .ok (.invokevirtual 110, 3) := by decide +kernel
theorem dX6_hold_18 : decode cX6_hold 18 = .ok (.ireturn, 1) := by decide +kernel
theorem dX6_hold_19 : decode cX6_hold 19 = .ok (.iload_n 2, 1) := by decide +kernel
theorem dX6_hold_20 : decode cX6_hold 20 = .ok (.bipush 112, 2) := by decide +kernel
theorem dX6_hold_22 : decode cX6_hold 22 = .ok (.if_icmp .eq 9, 3) := by decide +kernel
theorem dX6_hold_25 : decode cX6_hold 25 = .ok (.iload_n 2, 1) := by decide +kernel
theorem dX6_hold_26 : decode cX6_hold 26 = .ok (.bipush 108, 2) := by decide +kernel
theorem dX6_hold_28 : decode cX6_hold 28 = .ok (.if_icmp .ne 19, 3) := by decide +kernel
theorem dX6_hold_31 : decode cX6_hold 31 = .ok (.iload_n 3, 1) := by decide +kernel
theorem dX6_hold_32 : decode cX6_hold 32 = .ok (.aload_n 0, 1) := by decide +kernel
theorem dX6_hold_33 : decode cX6_hold 33 = .ok (.getfield 126, 3) := by decide +kernel
theorem dX6_hold_36 : decode cX6_hold 36 = .ok (.iconst 1, 1) := by decide +kernel
theorem dX6_hold_37 : decode cX6_hold 37 = .ok (.iadd, 1) := by decide +kernel
theorem dX6_hold_38 : decode cX6_hold 38 = .ok (.sipush 1000, 3) := by decide +kernel
theorem dX6_hold_41 : decode cX6_hold 41 = .ok (.invokestatic 55, 3) := by decide +kernel
theorem dX6_hold_44 : decode cX6_hold 44 = .ok (.ifCond .ne 9, 3) := by decide +kernel
theorem dX6_hold_47 : decode cX6_hold 47 = .ok (.aload_n 0, 1) := by decide +kernel
theorem dX6_hold_48 : decode cX6_hold 48 = .ok (.iconst 2, 1) := by decide +kernel
theorem dX6_hold_49 : decode cX6_hold 49 = .ok (.invokevirtual 110, 3) := by decide +kernel
theorem dX6_hold_52 : decode cX6_hold 52 = .ok (.ireturn, 1) := by decide +kernel
theorem dX6_hold_53 : decode cX6_hold 53 = .ok (.aload_n 0, 1) := by decide +kernel
theorem dX6_hold_54 : decode cX6_hold 54 = .ok (.getfield 20, 3) := by decide +kernel
theorem dX6_hold_57 : decode cX6_hold 57 = .ok (.iload_n 1, 1) := by decide +kernel
theorem dX6_hold_58 : decode cX6_hold 58 = .ok (.iload_n 2, 1) := by decide +kernel
theorem dX6_hold_59 : decode cX6_hold 59 = .ok (.castore, 1) := by decide +kernel
theorem dX6_hold_60 : decode cX6_hold 60 = .ok (.aload_n 0, 1) := by decide +kernel
theorem dX6_hold_61 : decode cX6_hold 61 = .ok (.getfield 24, 3) := by decide +kernel
theorem dX6_hold_64 : decode cX6_hold 64 = .ok (.iload_n 1, 1) := by decide +kernel
theorem dX6_hold_65 : decode cX6_hold 65 = .ok (.iload_n 3, 1) := by decide +kernel
theorem dX6_hold_66 : decode cX6_hold 66 = .ok (.iastore, 1) := by decide +kernel
theorem dX6_hold_67 : decode cX6_hold 67 = .ok (.aload_n 0, 1) := by decide +kernel
theorem dX6_hold_68 : decode cX6_hold 68 = .ok (.iload_n 1, 1) := by decide +kernel
theorem dX6_hold_69 : decode cX6_hold 69 = .ok (.invokevirtual 129, 3) := by decide +kernel
theorem dX6_hold_72 : decode cX6_hold 72 = .ok (.istore 4, 2) := by decide +kernel
theorem dX6_hold_74 : decode cX6_hold 74 = .ok (.iload 4, 2) := by decide +kernel
theorem dX6_hold_76 : decode cX6_hold 76 = .ok (.iconst (-1), 1) := by decide +kernel
theorem dX6_hold_77 : decode cX6_hold 77 = .ok (.if_icmp .eq 14, 3) := by decide +kernel
theorem dX6_hold_80 : decode cX6_hold 80 = .ok (.aload_n 0, 1) := by decide +kernel
theorem dX6_hold_81 : decode cX6_hold 81 = .ok (.getfield 39, 3) := by decide +kernel
theorem dX6_hold_84 : decode cX6_hold 84 = .ok (.iload 4, 2) := by decide +kernel
theorem dX6_hold_86 : decode cX6_hold 86 = .ok (.iaload, 1) := by decide +kernel
theorem dX6_hold_87 : decode cX6_hold 87 = .ok (.iload_n 3, 1) := by decide +kernel
theorem dX6_hold_88 : decode cX6_hold 88 = .ok (.if_icmp .lt 5, 3) := by decide +kernel
theorem dX6_hold_91 : decode cX6_hold 91 = .ok (.iconst 0, 1) := by decide +kernel
theorem dX6_hold_92 : decode cX6_hold 92 = .ok (.ireturn, 1) := by decide +kernel
theorem dX6_hold_93 : decode cX6_hold 93 = .ok (.aload_n 0, 1) := by decide +kernel
theorem dX6_hold_94 : decode cX6_hold 94 = .ok (.getfield 45, 3) := by decide +kernel
theorem dX6_hold_97 : decode cX6_hold 97 = .ok (.iload 4, 2) := by decide +kernel
theorem dX6_hold_99 : decode cX6_hold 99 = .ok (.bipush 103, 2) := by decide +kernel
theorem dX6_hold_101 : decode cX6_hold 101 = .ok (.castore, 1) := by decide +kernel
theorem dX6_hold_102 : decode cX6_hold 102 = .ok (.iconst 1, 1) := by decide +kernel
theorem dX6_hold_103 : decode cX6_hold 103 = .ok (.ireturn, 1) := by decide +kernel
theorem dX6_release_0 : decode cX6_release 0 = .ok (.aload_n 0, 1) := by decide +kernel
theorem dX6_release_1 : decode cX6_release 1 = .ok (.iconst 0, 1) := by decide +kernel
theorem dX6_release_2 : decode cX6_release 2 = .ok (.putfield 48, 3) := by decide +kernel
theorem dX6_release_5 : decode cX6_release 5 = .ok (.aload_n 0, 1) := by decide +kernel
theorem dX6_release_6 : decode cX6_release 6 = .ok (.iload_n 1, 1) := by decide +kernel
theorem dX6_release_7 : decode cX6_release 7 = .ok (.invokevirtual 120, 3) := by decide +kernel
theorem dX6_release_10 : decode cX6_release 10 = .ok (.ifCond .ne 9, 3) := by decide +kernel
theorem dX6_release_13 : decode cX6_release 13 = .ok (.aload_n 0, 1) := by decide +kernel
theorem dX6_release_14 : decode cX6_release 14 = .ok (.iconst 1, 1) := by decide +kernel
theorem dX6_release_15 : decode cX6_release 15 = .ok (.invokevirtual 110, 3) := by decide +kernel
theorem dX6_release_18 : decode cX6_release 18 = .ok (.ireturn, 1) := by decide +kernel
theorem dX6_release_19 : decode cX6_release 19 = .ok (.aload_n 0, 1) := by decide +kernel
theorem dX6_release_20 : decode cX6_release 20 = .ok (.getfield 20, 3) := by decide +kernel
theorem dX6_release_23 : decode cX6_release 23 = .ok (.iload_n 1, 1) := by decide +kernel
theorem dX6_release_24 : decode cX6_release 24 = .ok (.caload, 1) := by decide +kernel
theorem dX6_release_25 : decode cX6_release 25 = .ok (.bipush 45, 2) := by decide +kernel
theorem dX6_release_27 : decode cX6_release 27 = .ok (.if_icmp .ne 9, 3) := by decide +kernel
theorem dX6_release_30 : decode cX6_release 30 = .ok (.aload_n 0, 1) := by decide +kernel
theorem dX6_release_31 : decode cX6_release 31 = .ok (.iconst 2, 1) := by decide +kernel
theorem dX6_release_32 : decode cX6_release 32 = .ok (.invokevirtual 110, 3) := by decide +kernel
theorem dX6_release_35 : decode cX6_release 35 = .ok (.ireturn, 1) := by decide +kernel
theorem dX6_release_36 : decode cX6_release 36 = .ok (.aload_n 0, 1) := by decide +kernel
theorem dX6_release_37 : decode cX6_release 37 = .ok (.getfield 20, 3) := by decide +kernel
theorem dX6_release_40 : decode cX6_release 40 = .ok (.iload_n 1, 1) := by decide +kernel
theorem dX6_release_41 : decode cX6_release 41 = .ok (.bipush 45, 2) := by decide +kernel
theorem dX6_release_43 : decode cX6_release 43 = .ok (.castore, 1) := by decide +kernel
theorem dX6_release_44 : decode cX6_release 44 = .ok (.aload_n 0, 1) := by decide +kernel
theorem dX6_release_45 : decode cX6_release 45 = .ok (.getfield 24, 3) := by decide +kernel
theorem dX6_release_48 : decode cX6_release 48 = .ok (.iload_n 1, 1) := by decide +kernel
theorem dX6_release_49 : decode cX6_release 49 = .ok (.iaload, 1) := by decide +kernel
theorem dX6_release_50 : decode cX6_release 50 = .ok (.ireturn, 1) := by decide +kernel
theorem dX6_holdOf_0 : decode cX6_holdOf 0 = .ok (.aload_n 0, 1) := by decide +kernel
theorem dX6_holdOf_1 : decode cX6_holdOf 1 = .ok (.aload_n 0, 1) := by decide +kernel
theorem dX6_holdOf_2 : decode cX6_holdOf 2 = .ok (.iload_n 1, 1) := by decide +kernel
theorem dX6_holdOf_3 : decode cX6_holdOf 3 = .ok (.invokevirtual 120, 3) := by decide +kernel
theorem dX6_holdOf_6 : decode cX6_holdOf 6 = .ok (.ifCond .eq 7, 3) := by decide +kernel
theorem dX6_holdOf_9 : decode cX6_holdOf 9 = .ok (.iconst 0, 1) := by decide +kernel
theorem dX6_holdOf_10 : decode cX6_holdOf 10 = .ok (.goto 4, 3) := by decide +kernel
theorem dX6_holdOf_13 : decode cX6_holdOf 13 = .ok (.iconst 1, 1) := by decide +kernel
theorem dX6_holdOf_14 : decode cX6_holdOf 14 = .ok (.putfield 48, 3) := by decide +kernel
theorem dX6_holdOf_17 : decode cX6_holdOf 17 = .ok (.aload_n 0, 1) := by decide +kernel
theorem dX6_holdOf_18 : decode cX6_holdOf 18 = .ok (.getfield 48, 3) := by decide +kernel
theorem dX6_holdOf_21 : decode cX6_holdOf 21 = .ok (.ifCond .le 7, 3) := by decide +kernel
theorem dX6_holdOf_24 : decode cX6_holdOf 24 = .ok (.iconst 0, 1) := by decide +kernel
theorem dX6_holdOf_25 : decode cX6_holdOf 25 = .ok (.goto 9, 3) := by decide +kernel
theorem dX6_holdOf_28 : decode cX6_holdOf 28 = .ok (.aload_n 0, 1) := by decide +kernel
theorem dX6_holdOf_29 : decode cX6_holdOf 29 = .ok (.getfield 20, 3) := by decide +kernel
theorem dX6_holdOf_32 : decode cX6_holdOf 32 = .ok (.iload_n 1, 1) := by decide +kernel
theorem dX6_holdOf_33 : decode cX6_holdOf 33 = .ok (.caload, 1) := by decide +kernel
theorem dX6_holdOf_34 : decode cX6_holdOf 34 = .ok (.ireturn, 1) := by decide +kernel
theorem dX6_heldUntil_0 : decode cX6_heldUntil 0 = .ok (.aload_n 0, 1) := by decide +kernel
theorem dX6_heldUntil_1 : decode cX6_heldUntil 1 = .ok (.iconst 0, 1) := by decide +kernel
theorem dX6_heldUntil_2 : decode cX6_heldUntil 2 = .ok (.putfield 48, 3) := by decide +kernel
theorem dX6_heldUntil_5 : decode cX6_heldUntil 5 = .ok (.aload_n 0, 1) := by decide +kernel
theorem dX6_heldUntil_6 : decode cX6_heldUntil 6 = .ok (.iload_n 1, 1) := by decide +kernel
theorem dX6_heldUntil_7 : decode cX6_heldUntil 7 = .ok (.invokevirtual 120, 3) := by decide +kernel
theorem dX6_heldUntil_10 : decode cX6_heldUntil 10 = .ok (.ifCond .ne 9, 3) := by decide +kernel
theorem dX6_heldUntil_13 : decode cX6_heldUntil 13 = .ok (.aload_n 0, 1) := by decide +kernel
theorem dX6_heldUntil_14 : decode cX6_heldUntil 14 = .ok (.iconst 1, 1) := by decide +kernel
theorem dX6_heldUntil_15 : decode cX6_heldUntil 15 = .ok (.invokevirtual 110, 3) := by decide +kernel
theorem dX6_heldUntil_18 : decode cX6_heldUntil 18 = .ok (.ireturn, 1) := by decide +kernel
theorem dX6_heldUntil_19 : decode cX6_heldUntil 19 = .ok (.aload_n 0, 1) := by decide +kernel
theorem dX6_heldUntil_20 : decode cX6_heldUntil 20 = .ok (.getfield 20, 3) := by decide +kernel
theorem dX6_heldUntil_23 : decode cX6_heldUntil 23 = .ok (.iload_n 1, 1) := by decide +kernel
theorem dX6_heldUntil_24 : decode cX6_heldUntil 24 = .ok (.caload, 1) := by decide +kernel
theorem dX6_heldUntil_25 : decode cX6_heldUntil 25 = .ok (.bipush 45, 2) := by decide +kernel
theorem dX6_heldUntil_27 : decode cX6_heldUntil 27 = .ok (.if_icmp .ne 11, 3) := by decide +kernel
theorem dX6_heldUntil_30 : decode cX6_heldUntil 30 = .ok (.aload_n 0, 1) := by decide +kernel
theorem dX6_heldUntil_31 : decode cX6_heldUntil 31 = .ok (.iconst 2, 1) := by decide +kernel
theorem dX6_heldUntil_32 : decode cX6_heldUntil 32 = .ok (.invokevirtual 110, 3) := by decide +kernel
theorem dX6_heldUntil_35 : decode cX6_heldUntil 35 = .ok (.goto 9, 3) := by decide +kernel
theorem dX6_heldUntil_38 : decode cX6_heldUntil 38 = .ok (.aload_n 0, 1) := by decide +kernel
theorem dX6_heldUntil_39 : decode cX6_heldUntil 39 = .ok (.getfield 24, 3) := by decide +kernel
theorem dX6_heldUntil_42 : decode cX6_heldUntil 42 = .ok (.iload_n 1, 1) := by decide +kernel
theorem dX6_heldUntil_43 : decode cX6_heldUntil 43 = .ok (.iaload, 1) := by decide +kernel
theorem dX6_heldUntil_44 : decode cX6_heldUntil 44 = .ok (.ireturn, 1) := by decide +kernel
theorem dX6_pinnedAbove_0 : decode cX6_pinnedAbove 0 = .ok (.aload_n 0, 1) := by decide +kernel
theorem dX6_pinnedAbove_1 : decode cX6_pinnedAbove 1 = .ok (.iconst 0, 1) := by decide +kernel
theorem dX6_pinnedAbove_2 : decode cX6_pinnedAbove 2 = .ok (.putfield 48, 3) := by decide +kernel
theorem dX6_pinnedAbove_5 : decode cX6_pinnedAbove 5 = .ok (.aload_n 0, 1) := by decide +kernel
theorem dX6_pinnedAbove_6 : decode cX6_pinnedAbove 6 = .ok (.iload_n 1, 1) := by decide +kernel
theorem dX6_pinnedAbove_7 : decode cX6_pinnedAbove 7 = .ok (.invokevirtual 120, 3) := by decide +kernel
theorem dX6_pinnedAbove_10 : decode cX6_pinnedAbove 10 = .ok (.ifCond .ne 9, 3) := by decide +kernel
theorem dX6_pinnedAbove_13 : decode cX6_pinnedAbove 13 = .ok (.aload_n 0, 1) := by decide +kernel
theorem dX6_pinnedAbove_14 : decode cX6_pinnedAbove 14 = .ok (.iconst 1, 1) := by decide +kernel
theorem dX6_pinnedAbove_15 : decode cX6_pinnedAbove 15 = .ok (.invokevirtual 110, 3) := by decide +kernel
theorem dX6_pinnedAbove_18 : decode cX6_pinnedAbove 18 = .ok (.ireturn, 1) := by decide +kernel
theorem dX6_pinnedAbove_19 : decode cX6_pinnedAbove 19 = .ok (.aload_n 0, 1) := by decide +kernel
theorem dX6_pinnedAbove_20 : decode cX6_pinnedAbove 20 = .ok (.iconst 0, 1) := by decide +kernel
theorem dX6_pinnedAbove_21 : decode cX6_pinnedAbove 21 = .ok (.iload_n 1, 1) := by decide +kernel
theorem dX6_pinnedAbove_22 : decode cX6_pinnedAbove 22 = .ok (.invokevirtual 62, 3) := by decide +kernel
theorem dX6_pinnedAbove_25 : decode cX6_pinnedAbove 25 = .ok (.istore_n 2, 1) := by decide +kernel
theorem dX6_pinnedAbove_26 : decode cX6_pinnedAbove 26 = .ok (.iconst 0, 1) := by decide +kernel
theorem dX6_pinnedAbove_27 : decode cX6_pinnedAbove 27 = .ok (.istore_n 3, 1) := by decide +kernel
theorem dX6_pinnedAbove_28 : decode cX6_pinnedAbove 28 = .ok (.aload_n 0, 1) := by decide +kernel
theorem dX6_pinnedAbove_29 : decode cX6_pinnedAbove 29 = .ok (.iconst 0, 1) := by decide +kernel
theorem dX6_pinnedAbove_30 : decode cX6_pinnedAbove 30 = .ok (.iload_n 1, 1) := by decide +kernel
theorem dX6_pinnedAbove_31 : decode cX6_pinnedAbove 31 = .ok (.invokevirtual 98, 3) := by decide +kernel
theorem dX6_pinnedAbove_34 : decode cX6_pinnedAbove 34 = .ok (.iconst 1, 1) := by decide +kernel
theorem dX6_pinnedAbove_35 : decode cX6_pinnedAbove 35 = .ok (.iadd, 1) := by decide +kernel
theorem dX6_pinnedAbove_36 : decode cX6_pinnedAbove 36 = .ok (.istore 4, 2) := by decide +kernel
theorem dX6_pinnedAbove_38 : decode cX6_pinnedAbove 38 = .ok (.iload 4, 2) := by decide +kernel
theorem dX6_pinnedAbove_40 : decode cX6_pinnedAbove 40 = .ok (.aload_n 0, 1) := by decide +kernel
theorem dX6_pinnedAbove_41 : decode cX6_pinnedAbove 41 = .ok (.getfield 27, 3) := by decide +kernel
theorem dX6_pinnedAbove_44 : decode cX6_pinnedAbove 44 = .ok (.iload_n 2, 1) := by decide +kernel
theorem dX6_pinnedAbove_45 : decode cX6_pinnedAbove 45 = .ok (.iaload, 1) := by decide +kernel
theorem dX6_pinnedAbove_46 : decode cX6_pinnedAbove 46 = .ok (.if_icmp .ge 35, 3) := by decide +kernel
theorem dX6_pinnedAbove_49 : decode cX6_pinnedAbove 49 = .ok (.iload_n 3, 1) := by decide +kernel
theorem dX6_pinnedAbove_50 : decode cX6_pinnedAbove 50 = .ok (.aload_n 0, 1) := by decide +kernel
theorem dX6_pinnedAbove_51 : decode cX6_pinnedAbove 51 = .ok (.aload_n 0, 1) := by decide +kernel
theorem dX6_pinnedAbove_52 : decode cX6_pinnedAbove 52 = .ok (.getfield 30, 3) := by decide +kernel
theorem dX6_pinnedAbove_55 : decode cX6_pinnedAbove 55 = .ok (.iconst 4, 1) := by decide +kernel
theorem dX6_pinnedAbove_56 : decode cX6_pinnedAbove 56 = .ok (.iload_n 2, 1) := by decide +kernel
theorem dX6_pinnedAbove_57 : decode cX6_pinnedAbove 57 = .ok (.imul, 1) := by decide +kernel
theorem dX6_pinnedAbove_58 : decode cX6_pinnedAbove 58 = .ok (.iload 4, 2) := by decide +kernel
theorem dX6_pinnedAbove_60 : decode cX6_pinnedAbove 60 = .ok (.iadd, 1) := by decide +kernel
theorem dX6_pinnedAbove_61 : decode cX6_pinnedAbove 61 = .ok (.iaload, 1) := by decide +kernel
theorem dX6_pinnedAbove_62 : decode cX6_pinnedAbove 62 = .ok (.invokevirtual 73, 3) := by decide +kernel
theorem dX6_pinnedAbove_65 : decode cX6_pinnedAbove 65 = .ok (.ifCond .eq 7, 3) := by decide +kernel
theorem dX6_pinnedAbove_68 : decode cX6_pinnedAbove 68 = .ok (.iconst 1, 1) := by decide +kernel
theorem dX6_pinnedAbove_69 : decode cX6_pinnedAbove 69 = .ok (.goto 4, 3) := by decide +kernel
theorem dX6_pinnedAbove_72 : decode cX6_pinnedAbove 72 = .ok (.iconst 0, 1) := by decide +kernel
theorem dX6_pinnedAbove_73 : decode cX6_pinnedAbove 73 = .ok (.iadd, 1) := by decide +kernel
theorem dX6_pinnedAbove_74 : decode cX6_pinnedAbove 74 = .ok (.istore_n 3, 1) := by decide +kernel
theorem dX6_pinnedAbove_75 : decode cX6_pinnedAbove 75 = .ok (.iinc 4 1, 3) := by decide +kernel
theorem dX6_pinnedAbove_78 : decode cX6_pinnedAbove 78 = .ok (.goto (-40), 3) := by decide +kernel
theorem dX6_pinnedAbove_81 : decode cX6_pinnedAbove 81 = .ok (.iload_n 3, 1) := by decide +kernel
theorem dX6_pinnedAbove_82 : decode cX6_pinnedAbove 82 = .ok (.ireturn, 1) := by decide +kernel
theorem dX6_why_0 : decode cX6_why 0 = .ok (.aload_n 0, 1) := by decide +kernel
theorem dX6_why_1 : decode cX6_why 1 = .ok (.aload_n 0, 1) := by decide +kernel
theorem dX6_why_2 : decode cX6_why 2 = .ok (.iload_n 1, 1) := by decide +kernel
theorem dX6_why_3 : decode cX6_why 3 = .ok (.invokevirtual 120, 3) := by decide +kernel
theorem dX6_why_6 : decode cX6_why 6 = .ok (.ifCond .eq 15, 3) := by decide +kernel
theorem dX6_why_9 : decode cX6_why 9 = .ok (.aload_n 0, 1) := by decide +kernel
theorem dX6_why_10 : decode cX6_why 10 = .ok (.iload_n 2, 1) := by decide +kernel
theorem dX6_why_11 : decode cX6_why 11 = .ok (.invokevirtual 113, 3) := by decide +kernel
theorem dX6_why_14 : decode cX6_why 14 = .ok (.ifCond .eq 7, 3) := by decide +kernel
theorem dX6_why_17 : decode cX6_why 17 = .ok (.iconst 0, 1) := by decide +kernel
theorem dX6_why_18 : decode cX6_why 18 = .ok (.goto 4, 3) := by decide +kernel
theorem dX6_why_21 : decode cX6_why 21 = .ok (.iconst 1, 1) := by decide +kernel
theorem dX6_why_22 : decode cX6_why 22 = .ok (.putfield 48, 3) := by decide +kernel
theorem dX6_why_25 : decode cX6_why 25 = .ok (.aload_n 0, 1) := by decide +kernel
theorem dX6_why_26 : decode cX6_why 26 = .ok (.getfield 48, 3) := by decide +kernel
theorem dX6_why_29 : decode cX6_why 29 = .ok (.ifCond .le 5, 3) := by decide +kernel
theorem dX6_why_32 : decode cX6_why 32 = .ok (.iconst 0, 1) := by decide +kernel
theorem dX6_why_33 : decode cX6_why 33 = .ok (.ireturn, 1) := by decide +kernel
theorem dX6_why_34 : decode cX6_why 34 = .ok (.aload_n 0, 1) := by decide +kernel
theorem dX6_why_35 : decode cX6_why 35 = .ok (.getfield 27, 3) := by decide +kernel
theorem dX6_why_38 : decode cX6_why 38 = .ok (.iload_n 2, 1) := by decide +kernel
theorem dX6_why_39 : decode cX6_why 39 = .ok (.iaload, 1) := by decide +kernel
theorem dX6_why_40 : decode cX6_why 40 = .ok (.aload_n 0, 1) := by decide +kernel
theorem dX6_why_41 : decode cX6_why 41 = .ok (.getfield 7, 3) := by decide +kernel
theorem dX6_why_44 : decode cX6_why 44 = .ok (.iload_n 2, 1) := by decide +kernel
theorem dX6_why_45 : decode cX6_why 45 = .ok (.iaload, 1) := by decide +kernel
theorem dX6_why_46 : decode cX6_why 46 = .ok (.if_icmp .ne 7, 3) := by decide +kernel
theorem dX6_why_49 : decode cX6_why 49 = .ok (.iconst 1, 1) := by decide +kernel
theorem dX6_why_50 : decode cX6_why 50 = .ok (.goto 4, 3) := by decide +kernel
theorem dX6_why_53 : decode cX6_why 53 = .ok (.iconst 0, 1) := by decide +kernel
theorem dX6_why_54 : decode cX6_why 54 = .ok (.istore_n 3, 1) := by decide +kernel
theorem dX6_why_55 : decode cX6_why 55 = .ok (.aload_n 0, 1) := by decide +kernel
theorem dX6_why_56 : decode cX6_why 56 = .ok (.iconst 0, 1) := by decide +kernel
theorem dX6_why_57 : decode cX6_why 57 = .ok (.iload_n 1, 1) := by decide +kernel
theorem dX6_why_58 : decode cX6_why 58 = .ok (.invokevirtual 69, 3) := by decide +kernel
theorem dX6_why_61 : decode cX6_why 61 = .ok (.ifCond .ne 8, 3) := by decide +kernel
theorem dX6_why_64 : decode cX6_why 64 = .ok (.bipush 116, 2) := by decide +kernel
theorem dX6_why_66 : decode cX6_why 66 = .ok (.goto 62, 3) := by decide +kernel
theorem dX6_why_69 : decode cX6_why 69 = .ok (.aload_n 0, 1) := by decide +kernel
theorem dX6_why_70 : decode cX6_why 70 = .ok (.iload_n 1, 1) := by decide +kernel
theorem dX6_why_71 : decode cX6_why 71 = .ok (.invokevirtual 73, 3) := by decide +kernel
theorem dX6_why_74 : decode cX6_why 74 = .ok (.ifCond .eq 8, 3) := by decide +kernel
theorem dX6_why_77 : decode cX6_why 77 = .ok (.bipush 112, 2) := by decide +kernel
theorem dX6_why_79 : decode cX6_why 79 = .ok (.goto 49, 3) := by decide +kernel
theorem dX6_why_82 : decode cX6_why 82 = .ok (.aload_n 0, 1) := by decide +kernel
theorem dX6_why_83 : decode cX6_why 83 = .ok (.iconst 0, 1) := by decide +kernel
theorem dX6_why_84 : decode cX6_why 84 = .ok (.iload_n 1, 1) := by decide +kernel
theorem dX6_why_85 : decode cX6_why 85 = .ok (.invokevirtual 62, 3) := by decide +kernel
theorem dX6_why_88 : decode cX6_why 88 = .ok (.iload_n 2, 1) := by decide +kernel
theorem dX6_why_89 : decode cX6_why 89 = .ok (.if_icmp .ne 8, 3) := by decide +kernel
theorem dX6_why_92 : decode cX6_why 92 = .ok (.bipush 115, 2) := by decide +kernel
theorem dX6_why_94 : decode cX6_why 94 = .ok (.goto 34, 3) := by decide +kernel
theorem dX6_why_97 : decode cX6_why 97 = .ok (.iload_n 3, 1) := by decide +kernel
theorem dX6_why_98 : decode cX6_why 98 = .ok (.ifCond .eq 8, 3) := by decide +kernel
theorem dX6_why_101 : decode cX6_why 101 = .ok (.bipush 102, 2) := by decide +kernel
theorem dX6_why_103 : decode cX6_why 103 = .ok (.goto 25, 3) := by decide +kernel
theorem dX6_why_106 : decode cX6_why 106 = .ok (.aload_n 0, 1) := by decide +kernel
theorem dX6_why_107 : decode cX6_why 107 = .ok (.iconst 0, 1) := by decide +kernel
theorem dX6_why_108 : decode cX6_why 108 = .ok (.iload_n 2, 1) := by decide +kernel
theorem dX6_why_109 : decode cX6_why 109 = .ok (.aload_n 0, 1) := by decide +kernel
theorem dX6_why_110 : decode cX6_why 110 = .ok (.getfield 13, 3) := by decide +kernel
theorem dX6_why_113 : decode cX6_why 113 = .ok (.iload_n 1, 1) := by decide +kernel
theorem dX6_why_114 : decode cX6_why 114 = .ok (.iaload, 1) := by decide +kernel
theorem dX6_why_115 : decode cX6_why 115 = .ok (.invokevirtual 77, 3) := by decide +kernel
theorem dX6_why_118 : decode cX6_why 118 = .ok (.ifCond .eq 8, 3) := by decide +kernel
theorem dX6_why_121 : decode cX6_why 121 = .ok (.bipush 45, 2) := by decide +kernel
theorem dX6_why_123 : decode cX6_why 123 = .ok (.goto 5, 3) := by decide +kernel
theorem dX6_why_126 : decode cX6_why 126 = .ok (.bipush 119, 2) := by decide +kernel
theorem dX6_why_128 : decode cX6_why 128 = .ok (.ireturn, 1) := by decide +kernel
theorem dX6_move_0 : decode cX6_move 0 = .ok (.aload_n 0, 1) := by decide +kernel
theorem dX6_move_1 : decode cX6_move 1 = .ok (.iconst 0, 1) := by decide +kernel
theorem dX6_move_2 : decode cX6_move 2 = .ok (.putfield 48, 3) := by decide +kernel
theorem dX6_move_5 : decode cX6_move 5 = .ok (.aload_n 0, 1) := by decide +kernel
theorem dX6_move_6 : decode cX6_move 6 = .ok (.iload_n 1, 1) := by decide +kernel
theorem dX6_move_7 : decode cX6_move 7 = .ok (.invokevirtual 120, 3) := by decide +kernel
theorem dX6_move_10 : decode cX6_move 10 = .ok (.ifCond .eq 11, 3) := by decide +kernel
theorem dX6_move_13 : decode cX6_move 13 = .ok (.aload_n 0, 1) := by decide +kernel
theorem dX6_move_14 : decode cX6_move 14 = .ok (.iload_n 2, 1) := by decide +kernel
theorem dX6_move_15 : decode cX6_move 15 = .ok (.invokevirtual 113, 3) := by decide +kernel
theorem dX6_move_18 : decode cX6_move 18 = .ok (.ifCond .ne 9, 3) := by decide +kernel
theorem dX6_move_21 : decode cX6_move 21 = .ok (.aload_n 0, 1) := by decide +kernel
theorem dX6_move_22 : decode cX6_move 22 = .ok (.iconst 1, 1) := by decide +kernel
theorem dX6_move_23 : decode cX6_move 23 = .ok (.invokevirtual 110, 3) := by decide +kernel
theorem dX6_move_26 : decode cX6_move 26 = .ok (.ireturn, 1) := by decide +kernel
theorem dX6_move_27 : decode cX6_move 27 = .ok (.aload_n 0, 1) := by decide +kernel
theorem dX6_move_28 : decode cX6_move 28 = .ok (.iconst 0, 1) := by decide +kernel
theorem dX6_move_29 : decode cX6_move 29 = .ok (.iload_n 1, 1) := by decide +kernel
theorem dX6_move_30 : decode cX6_move 30 = .ok (.iload_n 2, 1) := by decide +kernel
theorem dX6_move_31 : decode cX6_move 31 = .ok (.invokevirtual 84, 3) := by decide +kernel
theorem dX6_move_34 : decode cX6_move 34 = .ok (.ifCond .ne 9, 3) := by decide +kernel
theorem dX6_move_37 : decode cX6_move 37 = .ok (.aload_n 0, 1) := by decide +kernel
theorem dX6_move_38 : decode cX6_move 38 = .ok (.iconst 2, 1) := by decide +kernel
theorem dX6_move_39 : decode cX6_move 39 = .ok (.invokevirtual 110, 3) := by decide +kernel
theorem dX6_move_42 : decode cX6_move 42 = .ok (.ireturn, 1) := by decide +kernel
theorem dX6_move_43 : decode cX6_move 43 = .ok (.aload_n 0, 1) := by decide +kernel
theorem dX6_move_44 : decode cX6_move 44 = .ok (.iconst 0, 1) := by decide +kernel
theorem dX6_move_45 : decode cX6_move 45 = .ok (.iload_n 1, 1) := by decide +kernel
theorem dX6_move_46 : decode cX6_move 46 = .ok (.iload_n 2, 1) := by decide +kernel
theorem dX6_move_47 : decode cX6_move 47 = .ok (.invokevirtual 95, 3) := by decide +kernel
theorem dX6_move_50 : decode cX6_move 50 = .ok (.aload_n 0, 1) := by decide +kernel
theorem dX6_move_51 : decode cX6_move 51 = .ok (.dup, 1) := by decide +kernel
theorem dX6_move_52 : decode cX6_move 52 = .ok (.getfield 108, 3) := by decide +kernel
theorem dX6_move_55 : decode cX6_move 55 = .ok (.iconst 1, 1) := by decide +kernel
theorem dX6_move_56 : decode cX6_move 56 = .ok (.iadd, 1) := by decide +kernel
theorem dX6_move_57 : decode cX6_move 57 = .ok (.putfield 108, 3) := by decide +kernel
theorem dX6_move_60 : decode cX6_move 60 = .ok (.aload_n 0, 1) := by decide +kernel
theorem dX6_move_61 : decode cX6_move 61 = .ok (.getfield 108, 3) := by decide +kernel
theorem dX6_move_64 : decode cX6_move 64 = .ok (.ireturn, 1) := by decide +kernel
theorem dX6_planned_0 : decode cX6_planned 0 = .ok (.aload_n 0, 1) := by decide +kernel
theorem dX6_planned_1 : decode cX6_planned 1 = .ok (.aload_n 0, 1) := by decide +kernel
theorem dX6_planned_2 : decode cX6_planned 2 = .ok (.iload_n 1, 1) := by decide +kernel
theorem dX6_planned_3 : decode cX6_planned 3 = .ok (.invokevirtual 120, 3) := by decide +kernel
theorem dX6_planned_6 : decode cX6_planned 6 = .ok (.ifCond .eq 7, 3) := by decide +kernel
theorem dX6_planned_9 : decode cX6_planned 9 = .ok (.iconst 0, 1) := by decide +kernel
theorem dX6_planned_10 : decode cX6_planned 10 = .ok (.goto 4, 3) := by decide +kernel
theorem dX6_planned_13 : decode cX6_planned 13 = .ok (.iconst 1, 1) := by decide +kernel
theorem dX6_planned_14 : decode cX6_planned 14 = .ok (.putfield 48, 3) := by decide +kernel
theorem dX6_planned_17 : decode cX6_planned 17 = .ok (.aload_n 0, 1) := by decide +kernel
theorem dX6_planned_18 : decode cX6_planned 18 = .ok (.getfield 48, 3) := by decide +kernel
theorem dX6_planned_21 : decode cX6_planned 21 = .ok (.ifCond .le 7, 3) := by decide +kernel
theorem dX6_planned_24 : decode cX6_planned 24 = .ok (.iconst 0, 1) := by decide +kernel
theorem dX6_planned_25 : decode cX6_planned 25 = .ok (.goto 8, 3) := by decide +kernel
theorem dX6_planned_28 : decode cX6_planned 28 = .ok (.aload_n 0, 1) := by decide +kernel
theorem dX6_planned_29 : decode cX6_planned 29 = .ok (.iload_n 1, 1) := by decide +kernel
theorem dX6_planned_30 : decode cX6_planned 30 = .ok (.invokevirtual 132, 3) := by decide +kernel
theorem dX6_planned_33 : decode cX6_planned 33 = .ok (.istore_n 2, 1) := by decide +kernel
theorem dX6_planned_34 : decode cX6_planned 34 = .ok (.iload_n 2, 1) := by decide +kernel
theorem dX6_planned_35 : decode cX6_planned 35 = .ok (.iconst (-1), 1) := by decide +kernel
theorem dX6_planned_36 : decode cX6_planned 36 = .ok (.if_icmp .ne 8, 3) := by decide +kernel
theorem dX6_planned_39 : decode cX6_planned 39 = .ok (.aload_n 0, 1) := by decide +kernel
theorem dX6_planned_40 : decode cX6_planned 40 = .ok (.iconst 2, 1) := by decide +kernel
theorem dX6_planned_41 : decode cX6_planned 41 = .ok (.putfield 48, 3) := by decide +kernel
theorem dX6_planned_44 : decode cX6_planned 44 = .ok (.aload_n 0, 1) := by decide +kernel
theorem dX6_planned_45 : decode cX6_planned 45 = .ok (.getfield 48, 3) := by decide +kernel
theorem dX6_planned_48 : decode cX6_planned 48 = .ok (.ifCond .le 7, 3) := by decide +kernel
theorem dX6_planned_51 : decode cX6_planned 51 = .ok (.iconst 0, 1) := by decide +kernel
theorem dX6_planned_52 : decode cX6_planned 52 = .ok (.goto 4, 3) := by decide +kernel
theorem dX6_planned_55 : decode cX6_planned 55 = .ok (.iload_n 2, 1) := by decide +kernel
theorem dX6_planned_56 : decode cX6_planned 56 = .ok (.ireturn, 1) := by decide +kernel
theorem dX6_planLength_0 : decode cX6_planLength 0 = .ok (.aload_n 0, 1) := by decide +kernel
theorem dX6_planLength_1 : decode cX6_planLength 1 = .ok (.iload_n 1, 1) := by decide +kernel
theorem dX6_planLength_2 : decode cX6_planLength 2 = .ok (.invokevirtual 135, 3) := by decide +kernel
theorem dX6_planLength_5 : decode cX6_planLength 5 = .ok (.ireturn, 1) := by decide +kernel
theorem dX6_planByTrying_0 : decode cX6_planByTrying 0 = .ok (.aload_n 0, 1) := by decide +kernel
theorem dX6_planByTrying_1 : decode cX6_planByTrying 1 = .ok (.iload_n 1, 1) := by decide +kernel
theorem dX6_planByTrying_2 : decode cX6_planByTrying 2 = .ok (.invokevirtual 135, 3) := by decide +kernel
theorem dX6_planByTrying_5 : decode cX6_planByTrying 5 = .ok (.ireturn, 1) := by decide +kernel
theorem dX6_plannedAt_0 : decode cX6_plannedAt 0 = .ok (.aload_n 0, 1) := by decide +kernel
theorem dX6_plannedAt_1 : decode cX6_plannedAt 1 = .ok (.iload_n 1, 1) := by decide +kernel
theorem dX6_plannedAt_2 : decode cX6_plannedAt 2 = .ok (.invokevirtual 135, 3) := by decide +kernel
theorem dX6_plannedAt_5 : decode cX6_plannedAt 5 = .ok (.istore_n 3, 1) := by decide +kernel
theorem dX6_plannedAt_6 : decode cX6_plannedAt 6 = .ok (.aload_n 0, 1) := by decide +kernel
theorem dX6_plannedAt_7 : decode cX6_plannedAt 7 = .ok (.getfield 48, 3) := by decide +kernel
theorem dX6_plannedAt_10 : decode cX6_plannedAt 10 = .ok (.ifCond .ne 19, 3) := by decide +kernel
theorem dX6_plannedAt_13 : decode cX6_plannedAt 13 = .ok (.iload_n 2, 1) := by decide +kernel
theorem dX6_plannedAt_14 : decode cX6_plannedAt 14 = .ok (.iconst 0, 1) := by decide +kernel
theorem dX6_plannedAt_15 : decode cX6_plannedAt 15 = .ok (.iload_n 3, 1) := by decide +kernel
theorem dX6_plannedAt_16 : decode cX6_plannedAt 16 = .ok (.iconst 1, 1) := by decide +kernel
theorem dX6_plannedAt_17 : decode cX6_plannedAt 17 = .ok (.isub, 1) := by decide +kernel
theorem dX6_plannedAt_18 : decode cX6_plannedAt 18 = .ok (.invokestatic 55, 3) := by decide +kernel
theorem dX6_plannedAt_21 : decode cX6_plannedAt 21 = .ok (.ifCond .ne 8, 3) := by decide +kernel
theorem dX6_plannedAt_24 : decode cX6_plannedAt 24 = .ok (.aload_n 0, 1) := by decide +kernel
theorem dX6_plannedAt_25 : decode cX6_plannedAt 25 = .ok (.iconst 2, 1) := by decide +kernel
theorem dX6_plannedAt_26 : decode cX6_plannedAt 26 = .ok (.putfield 48, 3) := by decide +kernel
theorem dX6_plannedAt_29 : decode cX6_plannedAt 29 = .ok (.aload_n 0, 1) := by decide +kernel
theorem dX6_plannedAt_30 : decode cX6_plannedAt 30 = .ok (.getfield 48, 3) := by decide +kernel
theorem dX6_plannedAt_33 : decode cX6_plannedAt 33 = .ok (.ifCond .le 7, 3) := by decide +kernel
theorem dX6_plannedAt_36 : decode cX6_plannedAt 36 = .ok (.iconst 0, 1) := by decide +kernel
theorem dX6_plannedAt_37 : decode cX6_plannedAt 37 = .ok (.goto 9, 3) := by decide +kernel
theorem dX6_plannedAt_40 : decode cX6_plannedAt 40 = .ok (.aload_n 0, 1) := by decide +kernel
theorem dX6_plannedAt_41 : decode cX6_plannedAt 41 = .ok (.getfield 33, 3) := by decide +kernel
theorem dX6_plannedAt_44 : decode cX6_plannedAt 44 = .ok (.iload_n 2, 1) := by decide +kernel
theorem dX6_plannedAt_45 : decode cX6_plannedAt 45 = .ok (.iaload, 1) := by decide +kernel
theorem dX6_plannedAt_46 : decode cX6_plannedAt 46 = .ok (.ireturn, 1) := by decide +kernel
theorem dX6_planBox_0 : decode cX6_planBox 0 = .ok (.aload_n 0, 1) := by decide +kernel
theorem dX6_planBox_1 : decode cX6_planBox 1 = .ok (.iload_n 1, 1) := by decide +kernel
theorem dX6_planBox_2 : decode cX6_planBox 2 = .ok (.iload_n 2, 1) := by decide +kernel
theorem dX6_planBox_3 : decode cX6_planBox 3 = .ok (.invokevirtual 138, 3) := by decide +kernel
theorem dX6_planBox_6 : decode cX6_planBox 6 = .ok (.iconst 4, 1) := by decide +kernel
theorem dX6_planBox_7 : decode cX6_planBox 7 = .ok (.idiv, 1) := by decide +kernel
theorem dX6_planBox_8 : decode cX6_planBox 8 = .ok (.ireturn, 1) := by decide +kernel
theorem dX6_planStack_0 : decode cX6_planStack 0 = .ok (.aload_n 0, 1) := by decide +kernel
theorem dX6_planStack_1 : decode cX6_planStack 1 = .ok (.iload_n 1, 1) := by decide +kernel
theorem dX6_planStack_2 : decode cX6_planStack 2 = .ok (.iload_n 2, 1) := by decide +kernel
theorem dX6_planStack_3 : decode cX6_planStack 3 = .ok (.invokevirtual 138, 3) := by decide +kernel
theorem dX6_planStack_6 : decode cX6_planStack 6 = .ok (.iconst 4, 1) := by decide +kernel
theorem dX6_planStack_7 : decode cX6_planStack 7 = .ok (.irem, 1) := by decide +kernel
theorem dX6_planStack_8 : decode cX6_planStack 8 = .ok (.ireturn, 1) := by decide +kernel
theorem dX6_dig_0 : decode cX6_dig 0 = .ok (.aload_n 0, 1) := by decide +kernel
theorem dX6_dig_1 : decode cX6_dig 1 = .ok (.iload_n 1, 1) := by decide +kernel
theorem dX6_dig_2 : decode cX6_dig 2 = .ok (.invokevirtual 135, 3) := by decide +kernel
theorem dX6_dig_5 : decode cX6_dig 5 = .ok (.istore_n 2, 1) := by decide +kernel
theorem dX6_dig_6 : decode cX6_dig 6 = .ok (.aload_n 0, 1) := by decide +kernel
theorem dX6_dig_7 : decode cX6_dig 7 = .ok (.iload_n 2, 1) := by decide +kernel
theorem dX6_dig_8 : decode cX6_dig 8 = .ok (.invokevirtual 141, 3) := by decide +kernel
theorem dX6_dig_11 : decode cX6_dig 11 = .ok (.iload_n 2, 1) := by decide +kernel
theorem dX6_dig_12 : decode cX6_dig 12 = .ok (.ireturn, 1) := by decide +kernel
theorem dX6_moves__0 : decode cX6_moves_ 0 = .ok (.aload_n 0, 1) := by decide +kernel
theorem dX6_moves__1 : decode cX6_moves_ 1 = .ok (.iconst 0, 1) := by decide +kernel
theorem dX6_moves__2 : decode cX6_moves_ 2 = .ok (.putfield 48, 3) := by decide +kernel
theorem dX6_moves__5 : decode cX6_moves_ 5 = .ok (.aload_n 0, 1) := by decide +kernel
theorem dX6_moves__6 : decode cX6_moves_ 6 = .ok (.getfield 108, 3) := by decide +kernel
theorem dX6_moves__9 : decode cX6_moves_ 9 = .ok (.ireturn, 1) := by decide +kernel
theorem dX6_bookedIn_0 : decode cX6_bookedIn 0 = .ok (.iconst 0, 1) := by decide +kernel
theorem dX6_bookedIn_1 : decode cX6_bookedIn 1 = .ok (.istore_n 3, 1) := by decide +kernel
theorem dX6_bookedIn_2 : decode cX6_bookedIn 2 = .ok (.iload_n 3, 1) := by decide +kernel
theorem dX6_bookedIn_3 : decode cX6_bookedIn 3 = .ok (.aload_n 0, 1) := by decide +kernel
theorem dX6_bookedIn_4 : decode cX6_bookedIn 4 = .ok (.getfield 123, 3) := by decide +kernel
theorem dX6_bookedIn_7 : decode cX6_bookedIn 7 = .ok (.if_icmp .ge 42, 3) := by decide +kernel
theorem dX6_bookedIn_10 : decode cX6_bookedIn 10 = .ok (.aload_n 0, 1) := by decide +kernel
theorem dX6_bookedIn_11 : decode cX6_bookedIn 11 = .ok (.getfield 42, 3) := by decide +kernel
theorem dX6_bookedIn_14 : decode cX6_bookedIn 14 = .ok (.iload_n 3, 1) := by decide +kernel
theorem dX6_bookedIn_15 : decode cX6_bookedIn 15 = .ok (.iaload, 1) := by decide +kernel
theorem dX6_bookedIn_16 : decode cX6_bookedIn 16 = .ok (.iload_n 1, 1) := by decide +kernel
theorem dX6_bookedIn_17 : decode cX6_bookedIn 17 = .ok (.if_icmp .ne 26, 3) := by decide +kernel
theorem dX6_bookedIn_20 : decode cX6_bookedIn 20 = .ok (.aload_n 0, 1) := by decide +kernel
theorem dX6_bookedIn_21 : decode cX6_bookedIn 21 = .ok (.getfield 39, 3) := by decide +kernel
theorem dX6_bookedIn_24 : decode cX6_bookedIn 24 = .ok (.iload_n 3, 1) := by decide +kernel
theorem dX6_bookedIn_25 : decode cX6_bookedIn 25 = .ok (.iaload, 1) := by decide +kernel
theorem dX6_bookedIn_26 : decode cX6_bookedIn 26 = .ok (.iload_n 2, 1) := by decide +kernel
theorem dX6_bookedIn_27 : decode cX6_bookedIn 27 = .ok (.if_icmp .ne 16, 3) := by decide +kernel
theorem dX6_bookedIn_30 : decode cX6_bookedIn 30 = .ok (.aload_n 0, 1) := by decide +kernel
theorem dX6_bookedIn_31 : decode cX6_bookedIn 31 = .ok (.getfield 45, 3) := by decide +kernel
theorem dX6_bookedIn_34 : decode cX6_bookedIn 34 = .ok (.iload_n 3, 1) := by decide +kernel
theorem dX6_bookedIn_35 : decode cX6_bookedIn 35 = .ok (.caload, 1) := by decide +kernel
theorem dX6_bookedIn_36 : decode cX6_bookedIn 36 = .ok (.bipush 98, 2) := by decide +kernel
theorem dX6_bookedIn_38 : decode cX6_bookedIn 38 = .ok (.if_icmp .ne 5, 3) := by decide +kernel
theorem dX6_bookedIn_41 : decode cX6_bookedIn 41 = .ok (.iload_n 3, 1) := by decide +kernel
theorem dX6_bookedIn_42 : decode cX6_bookedIn 42 = .ok (.ireturn, 1) := by decide +kernel
theorem dX6_bookedIn_43 : decode cX6_bookedIn 43 = .ok (.iinc 3 1, 3) := by decide +kernel
theorem dX6_bookedIn_46 : decode cX6_bookedIn 46 = .ok (.goto (-44), 3) := by decide +kernel
theorem dX6_bookedIn_49 : decode cX6_bookedIn 49 = .ok (.iconst (-1), 1) := by decide +kernel
theorem dX6_bookedIn_50 : decode cX6_bookedIn 50 = .ok (.ireturn, 1) := by decide +kernel
theorem dX6_isHeldIn_0 : decode cX6_isHeldIn 0 = .ok (.aload_n 0, 1) := by decide +kernel
theorem dX6_isHeldIn_1 : decode cX6_isHeldIn 1 = .ok (.getfield 20, 3) := by decide +kernel
theorem dX6_isHeldIn_4 : decode cX6_isHeldIn 4 = .ok (.iload_n 1, 1) := by decide +kernel
theorem dX6_isHeldIn_5 : decode cX6_isHeldIn 5 = .ok (.caload, 1) := by decide +kernel
theorem dX6_isHeldIn_6 : decode cX6_isHeldIn 6 = .ok (.bipush 45, 2) := by decide +kernel
theorem dX6_isHeldIn_8 : decode cX6_isHeldIn 8 = .ok (.if_icmp .eq 17, 3) := by decide +kernel
theorem dX6_isHeldIn_11 : decode cX6_isHeldIn 11 = .ok (.iload_n 2, 1) := by decide +kernel
theorem dX6_isHeldIn_12 : decode cX6_isHeldIn 12 = .ok (.aload_n 0, 1) := by decide +kernel
theorem dX6_isHeldIn_13 : decode cX6_isHeldIn 13 = .ok (.getfield 24, 3) := by decide +kernel
theorem dX6_isHeldIn_16 : decode cX6_isHeldIn 16 = .ok (.iload_n 1, 1) := by decide +kernel
theorem dX6_isHeldIn_17 : decode cX6_isHeldIn 17 = .ok (.iaload, 1) := by decide +kernel
theorem dX6_isHeldIn_18 : decode cX6_isHeldIn 18 = .ok (.if_icmp .ge 7, 3) := by decide +kernel
theorem dX6_isHeldIn_21 : decode cX6_isHeldIn 21 = .ok (.iconst 1, 1) := by decide +kernel
theorem dX6_isHeldIn_22 : decode cX6_isHeldIn 22 = .ok (.goto 4, 3) := by decide +kernel
theorem dX6_isHeldIn_25 : decode cX6_isHeldIn 25 = .ok (.iconst 0, 1) := by decide +kernel
theorem dX6_isHeldIn_26 : decode cX6_isHeldIn 26 = .ok (.ireturn, 1) := by decide +kernel
theorem dX6_book_0 : decode cX6_book 0 = .ok (.aload_n 0, 1) := by decide +kernel
theorem dX6_book_1 : decode cX6_book 1 = .ok (.iconst 0, 1) := by decide +kernel
theorem dX6_book_2 : decode cX6_book 2 = .ok (.putfield 48, 3) := by decide +kernel
theorem dX6_book_5 : decode cX6_book 5 = .ok (.aload_n 0, 1) := by decide +kernel
theorem dX6_book_6 : decode cX6_book 6 = .ok (.iload_n 1, 1) := by decide +kernel
theorem dX6_book_7 : decode cX6_book 7 = .ok (.invokevirtual 120, 3) := by decide +kernel
theorem dX6_book_10 : decode cX6_book 10 = .ok (.ifCond .eq 12, 3) := by decide +kernel
theorem dX6_book_13 : decode cX6_book 13 = .ok (.iload_n 3, 1) := by decide +kernel
theorem dX6_book_14 : decode cX6_book 14 = .ok (.iconst 0, 1) := by decide +kernel
theorem dX6_book_15 : decode cX6_book 15 = .ok (.iconst 2, 1) := by decide +kernel
theorem dX6_book_16 : decode cX6_book 16 = .ok (.invokestatic 55, 3) := by decide +kernel
theorem dX6_book_19 : decode cX6_book 19 = .ok (.ifCond .ne 9, 3) := by decide +kernel
theorem dX6_book_22 : decode cX6_book 22 = .ok (.aload_n 0, 1) := by decide +kernel
theorem dX6_book_23 : decode cX6_book 23 = .ok (.iconst 1, 1) := by decide +kernel
theorem dX6_book_24 : decode cX6_book 24 = .ok (.invokevirtual 110, 3) := by decide +kernel
theorem dX6_book_27 : decode cX6_book 27 = .ok (.ireturn, 1) := by decide +kernel
theorem dX6_book_28 : decode cX6_book 28 = .ok (.iload_n 2, 1) := by decide +kernel
theorem dX6_book_29 : decode cX6_book 29 = .ok (.aload_n 0, 1) := by decide +kernel
theorem dX6_book_30 : decode cX6_book 30 = .ok (.getfield 126, 3) := by decide +kernel
theorem dX6_book_33 : decode cX6_book 33 = .ok (.iconst 1, 1) := by decide +kernel
theorem dX6_book_34 : decode cX6_book 34 = .ok (.iadd, 1) := by decide +kernel
theorem dX6_book_35 : decode cX6_book 35 = .ok (.sipush 999, 3) := by decide +kernel
theorem dX6_book_38 : decode cX6_book 38 = .ok (.invokestatic 55, 3) := by decide +kernel
theorem dX6_book_41 : decode cX6_book 41 = .ok (.ifCond .ne 9, 3) := by decide +kernel
theorem dX6_book_44 : decode cX6_book 44 = .ok (.aload_n 0, 1) := by decide +kernel
theorem dX6_book_45 : decode cX6_book 45 = .ok (.iconst 2, 1) := by decide +kernel
theorem dX6_book_46 : decode cX6_book 46 = .ok (.invokevirtual 110, 3) := by decide +kernel
theorem dX6_book_49 : decode cX6_book 49 = .ok (.ireturn, 1) := by decide +kernel
theorem dX6_book_50 : decode cX6_book 50 = .ok (.aload_n 0, 1) := by decide +kernel
theorem dX6_book_51 : decode cX6_book 51 = .ok (.iload_n 1, 1) := by decide +kernel
theorem dX6_book_52 : decode cX6_book 52 = .ok (.iload_n 2, 1) := by decide +kernel
theorem dX6_book_53 : decode cX6_book 53 = .ok (.invokevirtual 145, 3) := by decide +kernel
theorem dX6_book_56 : decode cX6_book 56 = .ok (.ifCond .eq 9, 3) := by decide +kernel
theorem dX6_book_59 : decode cX6_book 59 = .ok (.aload_n 0, 1) := by decide +kernel
theorem dX6_book_60 : decode cX6_book 60 = .ok (.iconst 3, 1) := by decide +kernel
theorem dX6_book_61 : decode cX6_book 61 = .ok (.invokevirtual 110, 3) := by decide +kernel
theorem dX6_book_64 : decode cX6_book 64 = .ok (.ireturn, 1) := by decide +kernel
theorem dX6_book_65 : decode cX6_book 65 = .ok (.aload_n 0, 1) := by decide +kernel
theorem dX6_book_66 : decode cX6_book 66 = .ok (.iload_n 1, 1) := by decide +kernel
theorem dX6_book_67 : decode cX6_book 67 = .ok (.invokevirtual 129, 3) := by decide +kernel
theorem dX6_book_70 : decode cX6_book 70 = .ok (.iconst (-1), 1) := by decide +kernel
theorem dX6_book_71 : decode cX6_book 71 = .ok (.if_icmp .ne 22, 3) := by decide +kernel
theorem dX6_book_74 : decode cX6_book 74 = .ok (.aload_n 0, 1) := by decide +kernel
theorem dX6_book_75 : decode cX6_book 75 = .ok (.iload_n 3, 1) := by decide +kernel
theorem dX6_book_76 : decode cX6_book 76 = .ok (.iload_n 2, 1) := by decide +kernel
theorem dX6_book_77 : decode cX6_book 77 = .ok (.invokevirtual 148, 3) := by decide +kernel
theorem dX6_book_80 : decode cX6_book 80 = .ok (.iconst (-1), 1) := by decide +kernel
theorem dX6_book_81 : decode cX6_book 81 = .ok (.if_icmp .ne 12, 3) := by decide +kernel
theorem dX6_book_84 : decode cX6_book 84 = .ok (.aload_n 0, 1) := by decide +kernel
theorem dX6_book_85 : decode cX6_book 85 = .ok (.getfield 123, 3) := by decide +kernel
theorem dX6_book_88 : decode cX6_book 88 = .ok (.bipush 30, 2) := by decide +kernel
theorem dX6_book_90 : decode cX6_book 90 = .ok (.if_icmp .ne 9, 3) := by decide +kernel
theorem dX6_book_93 : decode cX6_book 93 = .ok (.aload_n 0, 1) := by decide +kernel
theorem dX6_book_94 : decode cX6_book 94 = .ok (.iconst 4, 1) := by decide +kernel
theorem dX6_book_95 : decode cX6_book 95 = .ok (.invokevirtual 110, 3) := by decide +kernel
theorem dX6_book_98 : decode cX6_book 98 = .ok (.ireturn, 1) := by decide +kernel
theorem dX6_book_99 : decode cX6_book 99 = .ok (.aload_n 0, 1) := by decide +kernel
theorem dX6_book_100 : decode cX6_book 100 = .ok (.getfield 36, 3) := by decide +kernel
theorem dX6_book_103 : decode cX6_book 103 = .ok (.aload_n 0, 1) := by decide +kernel
theorem dX6_book_104 : decode cX6_book 104 = .ok (.getfield 123, 3) := by decide +kernel
theorem dX6_book_107 : decode cX6_book 107 = .ok (.iload_n 1, 1) := by decide +kernel
theorem dX6_book_108 : decode cX6_book 108 = .ok (.iastore, 1) := by decide +kernel
theorem dX6_book_109 : decode cX6_book 109 = .ok (.aload_n 0, 1) := by decide +kernel
theorem dX6_book_110 : decode cX6_book 110 = .ok (.getfield 39, 3) := by decide +kernel
theorem dX6_book_113 : decode cX6_book 113 = .ok (.aload_n 0, 1) := by decide +kernel
theorem dX6_book_114 : decode cX6_book 114 = .ok (.getfield 123, 3) := by decide +kernel
theorem dX6_book_117 : decode cX6_book 117 = .ok (.iload_n 2, 1) := by decide +kernel
theorem dX6_book_118 : decode cX6_book 118 = .ok (.iastore, 1) := by decide +kernel
theorem dX6_book_119 : decode cX6_book 119 = .ok (.aload_n 0, 1) := by decide +kernel
theorem dX6_book_120 : decode cX6_book 120 = .ok (.getfield 42, 3) := by decide +kernel
theorem dX6_book_123 : decode cX6_book 123 = .ok (.aload_n 0, 1) := by decide +kernel
theorem dX6_book_124 : decode cX6_book 124 = .ok (.getfield 123, 3) := by decide +kernel
theorem dX6_book_127 : decode cX6_book 127 = .ok (.iload_n 3, 1) := by decide +kernel
theorem dX6_book_128 : decode cX6_book 128 = .ok (.iastore, 1) := by decide +kernel
theorem dX6_book_129 : decode cX6_book 129 = .ok (.aload_n 0, 1) := by decide +kernel
theorem dX6_book_130 : decode cX6_book 130 = .ok (.getfield 45, 3) := by decide +kernel
theorem dX6_book_133 : decode cX6_book 133 = .ok (.aload_n 0, 1) := by decide +kernel
theorem dX6_book_134 : decode cX6_book 134 = .ok (.getfield 123, 3) := by decide +kernel
theorem dX6_book_137 : decode cX6_book 137 = .ok (.bipush 98, 2) := by decide +kernel
theorem dX6_book_139 : decode cX6_book 139 = .ok (.castore, 1) := by decide +kernel
theorem dX6_book_140 : decode cX6_book 140 = .ok (.aload_n 0, 1) := by decide +kernel
theorem dX6_book_141 : decode cX6_book 141 = .ok (.dup, 1) := by decide +kernel
theorem dX6_book_142 : decode cX6_book 142 = .ok (.getfield 123, 3) := by decide +kernel
theorem dX6_book_145 : decode cX6_book 145 = .ok (.iconst 1, 1) := by decide +kernel
theorem dX6_book_146 : decode cX6_book 146 = .ok (.iadd, 1) := by decide +kernel
theorem dX6_book_147 : decode cX6_book 147 = .ok (.putfield 123, 3) := by decide +kernel
theorem dX6_book_150 : decode cX6_book 150 = .ok (.aload_n 0, 1) := by decide +kernel
theorem dX6_book_151 : decode cX6_book 151 = .ok (.getfield 123, 3) := by decide +kernel
theorem dX6_book_154 : decode cX6_book 154 = .ok (.iconst 1, 1) := by decide +kernel
theorem dX6_book_155 : decode cX6_book 155 = .ok (.isub, 1) := by decide +kernel
theorem dX6_book_156 : decode cX6_book 156 = .ok (.ireturn, 1) := by decide +kernel
theorem dX6_counted_0 : decode cX6_counted 0 = .ok (.iconst 0, 1) := by decide +kernel
theorem dX6_counted_1 : decode cX6_counted 1 = .ok (.istore_n 2, 1) := by decide +kernel
theorem dX6_counted_2 : decode cX6_counted 2 = .ok (.iconst 0, 1) := by decide +kernel
theorem dX6_counted_3 : decode cX6_counted 3 = .ok (.istore_n 3, 1) := by decide +kernel
theorem dX6_counted_4 : decode cX6_counted 4 = .ok (.iload_n 3, 1) := by decide +kernel
theorem dX6_counted_5 : decode cX6_counted 5 = .ok (.aload_n 0, 1) := by decide +kernel
theorem dX6_counted_6 : decode cX6_counted 6 = .ok (.getfield 123, 3) := by decide +kernel
theorem dX6_counted_9 : decode cX6_counted 9 = .ok (.if_icmp .ge 27, 3) := by decide +kernel
theorem dX6_counted_12 : decode cX6_counted 12 = .ok (.iload_n 2, 1) := by decide +kernel
theorem dX6_counted_13 : decode cX6_counted 13 = .ok (.aload_n 0, 1) := by decide +kernel
theorem dX6_counted_14 : decode cX6_counted 14 = .ok (.getfield 45, 3) := by decide +kernel
theorem dX6_counted_17 : decode cX6_counted 17 = .ok (.iload_n 3, 1) := by decide +kernel
theorem dX6_counted_18 : decode cX6_counted 18 = .ok (.caload, 1) := by decide +kernel
theorem dX6_counted_19 : decode cX6_counted 19 = .ok (.iload_n 1, 1) := by decide +kernel
theorem dX6_counted_20 : decode cX6_counted 20 = .ok (.if_icmp .ne 7, 3) := by decide +kernel
theorem dX6_counted_23 : decode cX6_counted 23 = .ok (.iconst 1, 1) := by decide +kernel
theorem dX6_counted_24 : decode cX6_counted 24 = .ok (.goto 4, 3) := by decide +kernel
theorem dX6_counted_27 : decode cX6_counted 27 = .ok (.iconst 0, 1) := by decide +kernel
theorem dX6_counted_28 : decode cX6_counted 28 = .ok (.iadd, 1) := by decide +kernel
theorem dX6_counted_29 : decode cX6_counted 29 = .ok (.istore_n 2, 1) := by decide +kernel
theorem dX6_counted_30 : decode cX6_counted 30 = .ok (.iinc 3 1, 3) := by decide +kernel
theorem dX6_counted_33 : decode cX6_counted 33 = .ok (.goto (-29), 3) := by decide +kernel
theorem dX6_counted_36 : decode cX6_counted 36 = .ok (.iload_n 2, 1) := by decide +kernel
theorem dX6_counted_37 : decode cX6_counted 37 = .ok (.ireturn, 1) := by decide +kernel
theorem dX6_cancel_0 : decode cX6_cancel 0 = .ok (.aload_n 0, 1) := by decide +kernel
theorem dX6_cancel_1 : decode cX6_cancel 1 = .ok (.iconst 0, 1) := by decide +kernel
theorem dX6_cancel_2 : decode cX6_cancel 2 = .ok (.putfield 48, 3) := by decide +kernel
theorem dX6_cancel_5 : decode cX6_cancel 5 = .ok (.iload_n 1, 1) := by decide +kernel
theorem dX6_cancel_6 : decode cX6_cancel 6 = .ok (.iconst 0, 1) := by decide +kernel
theorem dX6_cancel_7 : decode cX6_cancel 7 = .ok (.aload_n 0, 1) := by decide +kernel
theorem dX6_cancel_8 : decode cX6_cancel 8 = .ok (.getfield 123, 3) := by decide +kernel
theorem dX6_cancel_11 : decode cX6_cancel 11 = .ok (.iconst 1, 1) := by decide +kernel
theorem dX6_cancel_12 : decode cX6_cancel 12 = .ok (.isub, 1) := by decide +kernel
theorem dX6_cancel_13 : decode cX6_cancel 13 = .ok (.invokestatic 55, 3) := by decide +kernel
theorem dX6_cancel_16 : decode cX6_cancel 16 = .ok (.ifCond .ne 9, 3) := by decide +kernel
theorem dX6_cancel_19 : decode cX6_cancel 19 = .ok (.aload_n 0, 1) := by decide +kernel
theorem dX6_cancel_20 : decode cX6_cancel 20 = .ok (.iconst 1, 1) := by decide +kernel
theorem dX6_cancel_21 : decode cX6_cancel 21 = .ok (.invokevirtual 110, 3) := by decide +kernel
theorem dX6_cancel_24 : decode cX6_cancel 24 = .ok (.ireturn, 1) := by decide +kernel
theorem dX6_cancel_25 : decode cX6_cancel 25 = .ok (.aload_n 0, 1) := by decide +kernel
theorem dX6_cancel_26 : decode cX6_cancel 26 = .ok (.getfield 45, 3) := by decide +kernel
theorem dX6_cancel_29 : decode cX6_cancel 29 = .ok (.iload_n 1, 1) := by decide +kernel
theorem dX6_cancel_30 : decode cX6_cancel 30 = .ok (.caload, 1) := by decide +kernel
theorem dX6_cancel_31 : decode cX6_cancel 31 = .ok (.bipush 98, 2) := by decide +kernel
theorem dX6_cancel_33 : decode cX6_cancel 33 = .ok (.if_icmp .eq 9, 3) := by decide +kernel
theorem dX6_cancel_36 : decode cX6_cancel 36 = .ok (.aload_n 0, 1) := by decide +kernel
theorem dX6_cancel_37 : decode cX6_cancel 37 = .ok (.iconst 2, 1) := by decide +kernel
theorem dX6_cancel_38 : decode cX6_cancel 38 = .ok (.invokevirtual 110, 3) := by decide +kernel
theorem dX6_cancel_41 : decode cX6_cancel 41 = .ok (.ireturn, 1) := by decide +kernel
theorem dX6_cancel_42 : decode cX6_cancel 42 = .ok (.aload_n 0, 1) := by decide +kernel
theorem dX6_cancel_43 : decode cX6_cancel 43 = .ok (.getfield 45, 3) := by decide +kernel
theorem dX6_cancel_46 : decode cX6_cancel 46 = .ok (.iload_n 1, 1) := by decide +kernel
theorem dX6_cancel_47 : decode cX6_cancel 47 = .ok (.bipush 99, 2) := by decide +kernel
theorem dX6_cancel_49 : decode cX6_cancel 49 = .ok (.castore, 1) := by decide +kernel
theorem dX6_cancel_50 : decode cX6_cancel 50 = .ok (.aload_n 0, 1) := by decide +kernel
theorem dX6_cancel_51 : decode cX6_cancel 51 = .ok (.bipush 98, 2) := by decide +kernel
theorem dX6_cancel_53 : decode cX6_cancel 53 = .ok (.invokevirtual 151, 3) := by decide +kernel
theorem dX6_cancel_56 : decode cX6_cancel 56 = .ok (.ireturn, 1) := by decide +kernel
theorem dX6_stateOf_0 : decode cX6_stateOf 0 = .ok (.aload_n 0, 1) := by decide +kernel
theorem dX6_stateOf_1 : decode cX6_stateOf 1 = .ok (.iload_n 1, 1) := by decide +kernel
theorem dX6_stateOf_2 : decode cX6_stateOf 2 = .ok (.iconst 0, 1) := by decide +kernel
theorem dX6_stateOf_3 : decode cX6_stateOf 3 = .ok (.aload_n 0, 1) := by decide +kernel
theorem dX6_stateOf_4 : decode cX6_stateOf 4 = .ok (.getfield 123, 3) := by decide +kernel
theorem dX6_stateOf_7 : decode cX6_stateOf 7 = .ok (.iconst 1, 1) := by decide +kernel
theorem dX6_stateOf_8 : decode cX6_stateOf 8 = .ok (.isub, 1) := by decide +kernel
theorem dX6_stateOf_9 : decode cX6_stateOf 9 = .ok (.invokestatic 55, 3) := by decide +kernel
theorem dX6_stateOf_12 : decode cX6_stateOf 12 = .ok (.ifCond .eq 7, 3) := by decide +kernel
theorem dX6_stateOf_15 : decode cX6_stateOf 15 = .ok (.iconst 0, 1) := by decide +kernel
theorem dX6_stateOf_16 : decode cX6_stateOf 16 = .ok (.goto 4, 3) := by decide +kernel
theorem dX6_stateOf_19 : decode cX6_stateOf 19 = .ok (.iconst 1, 1) := by decide +kernel
theorem dX6_stateOf_20 : decode cX6_stateOf 20 = .ok (.putfield 48, 3) := by decide +kernel
theorem dX6_stateOf_23 : decode cX6_stateOf 23 = .ok (.aload_n 0, 1) := by decide +kernel
theorem dX6_stateOf_24 : decode cX6_stateOf 24 = .ok (.getfield 48, 3) := by decide +kernel
theorem dX6_stateOf_27 : decode cX6_stateOf 27 = .ok (.ifCond .le 7, 3) := by decide +kernel
theorem dX6_stateOf_30 : decode cX6_stateOf 30 = .ok (.iconst 0, 1) := by decide +kernel
theorem dX6_stateOf_31 : decode cX6_stateOf 31 = .ok (.goto 9, 3) := by decide +kernel
theorem dX6_stateOf_34 : decode cX6_stateOf 34 = .ok (.aload_n 0, 1) := by decide +kernel
theorem dX6_stateOf_35 : decode cX6_stateOf 35 = .ok (.getfield 45, 3) := by decide +kernel
theorem dX6_stateOf_38 : decode cX6_stateOf 38 = .ok (.iload_n 1, 1) := by decide +kernel
theorem dX6_stateOf_39 : decode cX6_stateOf 39 = .ok (.caload, 1) := by decide +kernel
theorem dX6_stateOf_40 : decode cX6_stateOf 40 = .ok (.ireturn, 1) := by decide +kernel
theorem dX6_appointmentOf_0 : decode cX6_appointmentOf 0 = .ok (.aload_n 0, 1) := by decide +kernel
theorem dX6_appointmentOf_1 : decode cX6_appointmentOf 1 = .ok (.iconst 0, 1) := by decide +kernel
theorem dX6_appointmentOf_2 : decode cX6_appointmentOf 2 = .ok (.putfield 48, 3) := by decide +kernel
theorem dX6_appointmentOf_5 : decode cX6_appointmentOf 5 = .ok (.aload_n 0, 1) := by decide +kernel
theorem dX6_appointmentOf_6 : decode cX6_appointmentOf 6 = .ok (.iload_n 1, 1) := by decide +kernel
theorem dX6_appointmentOf_7 : decode cX6_appointmentOf 7 = .ok (.invokevirtual 120, 3) := by decide +kernel
theorem dX6_appointmentOf_10 : decode cX6_appointmentOf 10 = .ok (.ifCond .ne 9, 3) := by decide +kernel
theorem dX6_appointmentOf_13 : decode cX6_appointmentOf 13 = .ok (.aload_n 0, 1) := by decide +kernel
theorem dX6_appointmentOf_14 : decode cX6_appointmentOf 14 = .ok (.iconst 1, 1) := by decide +kernel
theorem dX6_appointmentOf_15 : decode cX6_appointmentOf 15 = .ok (.invokevirtual 110, 3) := by decide +kernel
theorem dX6_appointmentOf_18 : decode cX6_appointmentOf 18 = .ok (.ireturn, 1) := by decide +kernel
theorem dX6_appointmentOf_19 : decode cX6_appointmentOf 19 = .ok (.aload_n 0, 1) := by decide +kernel
theorem dX6_appointmentOf_20 : decode cX6_appointmentOf 20 = .ok (.iload_n 1, 1) := by decide +kernel
theorem dX6_appointmentOf_21 : decode cX6_appointmentOf 21 = .ok (.invokevirtual 129, 3) := by decide +kernel
theorem dX6_appointmentOf_24 : decode cX6_appointmentOf 24 = .ok (.istore_n 2, 1) := by decide +kernel
theorem dX6_appointmentOf_25 : decode cX6_appointmentOf 25 = .ok (.iload_n 2, 1) := by decide +kernel
theorem dX6_appointmentOf_26 : decode cX6_appointmentOf 26 = .ok (.iconst (-1), 1) := by decide +kernel
theorem dX6_appointmentOf_27 : decode cX6_appointmentOf 27 = .ok (.if_icmp .ne 11, 3) := by decide +kernel
theorem dX6_appointmentOf_30 : decode cX6_appointmentOf 30 = .ok (.aload_n 0, 1) := by decide +kernel
theorem dX6_appointmentOf_31 : decode cX6_appointmentOf 31 = .ok (.iconst 2, 1) := by decide +kernel
theorem dX6_appointmentOf_32 : decode cX6_appointmentOf 32 = .ok (.invokevirtual 110, 3) := by decide +kernel
theorem dX6_appointmentOf_35 : decode cX6_appointmentOf 35 = .ok (.goto 4, 3) := by decide +kernel
theorem dX6_appointmentOf_38 : decode cX6_appointmentOf 38 = .ok (.iload_n 2, 1) := by decide +kernel
theorem dX6_appointmentOf_39 : decode cX6_appointmentOf 39 = .ok (.ireturn, 1) := by decide +kernel
theorem dX6_inLane_0 : decode cX6_inLane 0 = .ok (.aload_n 0, 1) := by decide +kernel
theorem dX6_inLane_1 : decode cX6_inLane 1 = .ok (.iconst 0, 1) := by decide +kernel
theorem dX6_inLane_2 : decode cX6_inLane 2 = .ok (.putfield 48, 3) := by decide +kernel
theorem dX6_inLane_5 : decode cX6_inLane 5 = .ok (.iload_n 1, 1) := by decide +kernel
theorem dX6_inLane_6 : decode cX6_inLane 6 = .ok (.iconst 0, 1) := by decide +kernel
theorem dX6_inLane_7 : decode cX6_inLane 7 = .ok (.iconst 2, 1) := by decide +kernel
theorem dX6_inLane_8 : decode cX6_inLane 8 = .ok (.invokestatic 55, 3) := by decide +kernel
theorem dX6_inLane_11 : decode cX6_inLane 11 = .ok (.ifCond .ne 9, 3) := by decide +kernel
theorem dX6_inLane_14 : decode cX6_inLane 14 = .ok (.aload_n 0, 1) := by decide +kernel
theorem dX6_inLane_15 : decode cX6_inLane 15 = .ok (.iconst 1, 1) := by decide +kernel
theorem dX6_inLane_16 : decode cX6_inLane 16 = .ok (.invokevirtual 110, 3) := by decide +kernel
theorem dX6_inLane_19 : decode cX6_inLane 19 = .ok (.ireturn, 1) := by decide +kernel
theorem dX6_inLane_20 : decode cX6_inLane 20 = .ok (.iload_n 2, 1) := by decide +kernel
theorem dX6_inLane_21 : decode cX6_inLane 21 = .ok (.iconst 0, 1) := by decide +kernel
theorem dX6_inLane_22 : decode cX6_inLane 22 = .ok (.sipush 999, 3) := by decide +kernel
theorem dX6_inLane_25 : decode cX6_inLane 25 = .ok (.invokestatic 55, 3) := by decide +kernel
theorem dX6_inLane_28 : decode cX6_inLane 28 = .ok (.ifCond .eq 12, 3) := by decide +kernel
theorem dX6_inLane_31 : decode cX6_inLane 31 = .ok (.aload_n 0, 1) := by decide +kernel
theorem dX6_inLane_32 : decode cX6_inLane 32 = .ok (.iload_n 1, 1) := by decide +kernel
theorem dX6_inLane_33 : decode cX6_inLane 33 = .ok (.iload_n 2, 1) := by decide +kernel
theorem dX6_inLane_34 : decode cX6_inLane 34 = .ok (.invokevirtual 148, 3) := by decide +kernel
theorem dX6_inLane_37 : decode cX6_inLane 37 = .ok (.goto 8, 3) := by decide +kernel
theorem dX6_inLane_40 : decode cX6_inLane 40 = .ok (.aload_n 0, 1) := by decide +kernel
theorem dX6_inLane_41 : decode cX6_inLane 41 = .ok (.iconst 2, 1) := by decide +kernel
theorem dX6_inLane_42 : decode cX6_inLane 42 = .ok (.invokevirtual 110, 3) := by decide +kernel
theorem dX6_inLane_45 : decode cX6_inLane 45 = .ok (.ireturn, 1) := by decide +kernel
theorem dX6_firstHour_0 : decode cX6_firstHour 0 = .ok (.aload_n 0, 1) := by decide +kernel
theorem dX6_firstHour_1 : decode cX6_firstHour 1 = .ok (.iconst 0, 1) := by decide +kernel
theorem dX6_firstHour_2 : decode cX6_firstHour 2 = .ok (.putfield 48, 3) := by decide +kernel
theorem dX6_firstHour_5 : decode cX6_firstHour 5 = .ok (.aload_n 0, 1) := by decide +kernel
theorem dX6_firstHour_6 : decode cX6_firstHour 6 = .ok (.iload_n 1, 1) := by decide +kernel
theorem dX6_firstHour_7 : decode cX6_firstHour 7 = .ok (.invokevirtual 120, 3) := by decide +kernel
theorem dX6_firstHour_10 : decode cX6_firstHour 10 = .ok (.ifCond .ne 9, 3) := by decide +kernel
theorem dX6_firstHour_13 : decode cX6_firstHour 13 = .ok (.aload_n 0, 1) := by decide +kernel
theorem dX6_firstHour_14 : decode cX6_firstHour 14 = .ok (.iconst 1, 1) := by decide +kernel
theorem dX6_firstHour_15 : decode cX6_firstHour 15 = .ok (.invokevirtual 110, 3) := by decide +kernel
theorem dX6_firstHour_18 : decode cX6_firstHour 18 = .ok (.ireturn, 1) := by decide +kernel
theorem dX6_firstHour_19 : decode cX6_firstHour 19 = .ok (.aload_n 0, 1) := by decide +kernel
theorem dX6_firstHour_20 : decode cX6_firstHour 20 = .ok (.getfield 126, 3) := by decide +kernel
theorem dX6_firstHour_23 : decode cX6_firstHour 23 = .ok (.iconst 1, 1) := by decide +kernel
theorem dX6_firstHour_24 : decode cX6_firstHour 24 = .ok (.iadd, 1) := by decide +kernel
theorem dX6_firstHour_25 : decode cX6_firstHour 25 = .ok (.istore_n 2, 1) := by decide +kernel
theorem dX6_firstHour_26 : decode cX6_firstHour 26 = .ok (.iload_n 2, 1) := by decide +kernel
theorem dX6_firstHour_27 : decode cX6_firstHour 27 = .ok (.sipush 999, 3) := by decide +kernel
theorem dX6_firstHour_30 : decode cX6_firstHour 30 = .ok (.if_icmp .gt 60, 3) := by decide +kernel
theorem dX6_firstHour_33 : decode cX6_firstHour 33 = .ok (.aload_n 0, 1) := by decide +kernel
theorem dX6_firstHour_34 : decode cX6_firstHour 34 = .ok (.iconst 0, 1) := by decide +kernel
theorem dX6_firstHour_35 : decode cX6_firstHour 35 = .ok (.iload_n 2, 1) := by decide +kernel
theorem dX6_firstHour_36 : decode cX6_firstHour 36 = .ok (.invokevirtual 148, 3) := by decide +kernel
theorem dX6_firstHour_39 : decode cX6_firstHour 39 = .ok (.iconst (-1), 1) := by decide +kernel
theorem dX6_firstHour_40 : decode cX6_firstHour 40 = .ok (.if_icmp .eq 23, 3) := by decide +kernel
theorem dX6_firstHour_43 : decode cX6_firstHour 43 = .ok (.aload_n 0, 1) := by decide +kernel
theorem dX6_firstHour_44 : decode cX6_firstHour 44 = .ok (.iconst 1, 1) := by decide +kernel
theorem dX6_firstHour_45 : decode cX6_firstHour 45 = .ok (.iload_n 2, 1) := by decide +kernel
theorem dX6_firstHour_46 : decode cX6_firstHour 46 = .ok (.invokevirtual 148, 3) := by decide +kernel
theorem dX6_firstHour_49 : decode cX6_firstHour 49 = .ok (.iconst (-1), 1) := by decide +kernel
theorem dX6_firstHour_50 : decode cX6_firstHour 50 = .ok (.if_icmp .eq 13, 3) := by decide +kernel
theorem dX6_firstHour_53 : decode cX6_firstHour 53 = .ok (.aload_n 0, 1) := by decide +kernel
theorem dX6_firstHour_54 : decode cX6_firstHour 54 = .ok (.iconst 2, 1) := by decide +kernel
theorem dX6_firstHour_55 : decode cX6_firstHour 55 = .ok (.iload_n 2, 1) := by decide +kernel
theorem dX6_firstHour_56 : decode cX6_firstHour 56 = .ok (.invokevirtual 148, 3) := by decide +kernel
theorem dX6_firstHour_59 : decode cX6_firstHour 59 = .ok (.iconst (-1), 1) := by decide +kernel
theorem dX6_firstHour_60 : decode cX6_firstHour 60 = .ok (.if_icmp .ne 7, 3) := by decide +kernel
theorem dX6_firstHour_63 : decode cX6_firstHour 63 = .ok (.iconst 1, 1) := by decide +kernel
theorem dX6_firstHour_64 : decode cX6_firstHour 64 = .ok (.goto 4, 3) := by decide +kernel
theorem dX6_firstHour_67 : decode cX6_firstHour 67 = .ok (.iconst 0, 1) := by decide +kernel
theorem dX6_firstHour_68 : decode cX6_firstHour 68 = .ok (.istore_n 3, 1) := by decide +kernel
theorem dX6_firstHour_69 : decode cX6_firstHour 69 = .ok (.iload_n 3, 1) := by decide +kernel
theorem dX6_firstHour_70 : decode cX6_firstHour 70 = .ok (.ifCond .eq 14, 3) := by decide +kernel
theorem dX6_firstHour_73 : decode cX6_firstHour 73 = .ok (.aload_n 0, 1) := by decide +kernel
theorem dX6_firstHour_74 : decode cX6_firstHour 74 = .ok (.iload_n 1, 1) := by decide +kernel
theorem dX6_firstHour_75 : decode cX6_firstHour 75 = .ok (.iload_n 2, 1) := by decide +kernel
theorem dX6_firstHour_76 : decode cX6_firstHour 76 = .ok (.invokevirtual 145, 3) := by decide +kernel
theorem dX6_firstHour_79 : decode cX6_firstHour 79 = .ok (.ifCond .ne 5, 3) := by decide +kernel
theorem dX6_firstHour_82 : decode cX6_firstHour 82 = .ok (.iload_n 2, 1) := by decide +kernel
theorem dX6_firstHour_83 : decode cX6_firstHour 83 = .ok (.ireturn, 1) := by decide +kernel
theorem dX6_firstHour_84 : decode cX6_firstHour 84 = .ok (.iinc 2 1, 3) := by decide +kernel
theorem dX6_firstHour_87 : decode cX6_firstHour 87 = .ok (.goto (-61), 3) := by decide +kernel
theorem dX6_firstHour_90 : decode cX6_firstHour 90 = .ok (.aload_n 0, 1) := by decide +kernel
theorem dX6_firstHour_91 : decode cX6_firstHour 91 = .ok (.iconst 2, 1) := by decide +kernel
theorem dX6_firstHour_92 : decode cX6_firstHour 92 = .ok (.invokevirtual 110, 3) := by decide +kernel
theorem dX6_firstHour_95 : decode cX6_firstHour 95 = .ok (.ireturn, 1) := by decide +kernel
theorem dX6_leaves_0 : decode cX6_leaves 0 = .ok (.aload_n 0, 1) := by decide +kernel
theorem dX6_leaves_1 : decode cX6_leaves 1 = .ok (.getfield 36, 3) := by decide +kernel
theorem dX6_leaves_4 : decode cX6_leaves 4 = .ok (.iload_n 1, 1) := by decide +kernel
theorem dX6_leaves_5 : decode cX6_leaves 5 = .ok (.iaload, 1) := by decide +kernel
theorem dX6_leaves_6 : decode cX6_leaves 6 = .ok (.istore_n 2, 1) := by decide +kernel
theorem dX6_leaves_7 : decode cX6_leaves 7 = .ok (.aload_n 0, 1) := by decide +kernel
theorem dX6_leaves_8 : decode cX6_leaves 8 = .ok (.getfield 20, 3) := by decide +kernel
theorem dX6_leaves_11 : decode cX6_leaves 11 = .ok (.iload_n 2, 1) := by decide +kernel
theorem dX6_leaves_12 : decode cX6_leaves 12 = .ok (.caload, 1) := by decide +kernel
theorem dX6_leaves_13 : decode cX6_leaves 13 = .ok (.bipush 45, 2) := by decide +kernel
theorem dX6_leaves_15 : decode cX6_leaves 15 = .ok (.if_icmp .ne 11, 3) := by decide +kernel
theorem dX6_leaves_18 : decode cX6_leaves 18 = .ok (.aload_n 0, 1) := by decide +kernel
theorem dX6_leaves_19 : decode cX6_leaves 19 = .ok (.iload_n 2, 1) := by decide +kernel
theorem dX6_leaves_20 : decode cX6_leaves 20 = .ok (.invokevirtual 132, 3) := by decide +kernel
theorem dX6_leaves_23 : decode cX6_leaves 23 = .ok (.goto 4, 3) := by decide +kernel
theorem dX6_leaves_26 : decode cX6_leaves 26 = .ok (.iconst (-1), 1) := by decide +kernel
theorem dX6_leaves_27 : decode cX6_leaves 27 = .ok (.istore_n 3, 1) := by decide +kernel
theorem dX6_leaves_28 : decode cX6_leaves 28 = .ok (.aload_n 0, 1) := by decide +kernel
theorem dX6_leaves_29 : decode cX6_leaves 29 = .ok (.getfield 45, 3) := by decide +kernel
theorem dX6_leaves_32 : decode cX6_leaves 32 = .ok (.iload_n 1, 1) := by decide +kernel
theorem dX6_leaves_33 : decode cX6_leaves 33 = .ok (.iload_n 3, 1) := by decide +kernel
theorem dX6_leaves_34 : decode cX6_leaves 34 = .ok (.iconst (-1), 1) := by decide +kernel
theorem dX6_leaves_35 : decode cX6_leaves 35 = .ok (.if_icmp .ne 8, 3) := by decide +kernel
theorem dX6_leaves_38 : decode cX6_leaves 38 = .ok (.bipush 109, 2) := by decide +kernel
theorem dX6_leaves_40 : decode cX6_leaves 40 = .ok (.goto 5, 3) := by decide +kernel
theorem dX6_leaves_43 : decode cX6_leaves 43 = .ok (.bipush 100, 2) := by decide +kernel
theorem dX6_leaves_45 : decode cX6_leaves 45 = .ok (.castore, 1) := by decide +kernel
theorem dX6_leaves_46 : decode cX6_leaves 46 = .ok (.iload_n 3, 1) := by decide +kernel
theorem dX6_leaves_47 : decode cX6_leaves 47 = .ok (.iconst (-1), 1) := by decide +kernel
theorem dX6_leaves_48 : decode cX6_leaves 48 = .ok (.if_icmp .ne 5, 3) := by decide +kernel
theorem dX6_leaves_51 : decode cX6_leaves 51 = .ok (.iconst 0, 1) := by decide +kernel
theorem dX6_leaves_52 : decode cX6_leaves 52 = .ok (.ireturn, 1) := by decide +kernel
theorem dX6_leaves_53 : decode cX6_leaves 53 = .ok (.aload_n 0, 1) := by decide +kernel
theorem dX6_leaves_54 : decode cX6_leaves 54 = .ok (.iload_n 3, 1) := by decide +kernel
theorem dX6_leaves_55 : decode cX6_leaves 55 = .ok (.invokevirtual 141, 3) := by decide +kernel
theorem dX6_leaves_58 : decode cX6_leaves 58 = .ok (.aload_n 0, 1) := by decide +kernel
theorem dX6_leaves_59 : decode cX6_leaves 59 = .ok (.getfield 27, 3) := by decide +kernel
theorem dX6_leaves_62 : decode cX6_leaves 62 = .ok (.aload_n 0, 1) := by decide +kernel
theorem dX6_leaves_63 : decode cX6_leaves 63 = .ok (.iconst 0, 1) := by decide +kernel
theorem dX6_leaves_64 : decode cX6_leaves 64 = .ok (.iload_n 2, 1) := by decide +kernel
theorem dX6_leaves_65 : decode cX6_leaves 65 = .ok (.invokevirtual 62, 3) := by decide +kernel
theorem dX6_leaves_68 : decode cX6_leaves 68 = .ok (.dup2, 1) := by decide +kernel
theorem dX6_leaves_69 : decode cX6_leaves 69 = .ok (.iaload, 1) := by decide +kernel
theorem dX6_leaves_70 : decode cX6_leaves 70 = .ok (.iconst 1, 1) := by decide +kernel
theorem dX6_leaves_71 : decode cX6_leaves 71 = .ok (.isub, 1) := by decide +kernel
theorem dX6_leaves_72 : decode cX6_leaves 72 = .ok (.iastore, 1) := by decide +kernel
theorem dX6_leaves_73 : decode cX6_leaves 73 = .ok (.aload_n 0, 1) := by decide +kernel
theorem dX6_leaves_74 : decode cX6_leaves 74 = .ok (.getfield 16, 3) := by decide +kernel
theorem dX6_leaves_77 : decode cX6_leaves 77 = .ok (.iload_n 2, 1) := by decide +kernel
theorem dX6_leaves_78 : decode cX6_leaves 78 = .ok (.iconst 0, 1) := by decide +kernel
theorem dX6_leaves_79 : decode cX6_leaves 79 = .ok (.bastore, 1) := by decide +kernel
theorem dX6_leaves_80 : decode cX6_leaves 80 = .ok (.aload_n 0, 1) := by decide +kernel
theorem dX6_leaves_81 : decode cX6_leaves 81 = .ok (.dup, 1) := by decide +kernel
theorem dX6_leaves_82 : decode cX6_leaves 82 = .ok (.getfield 155, 3) := by decide +kernel
theorem dX6_leaves_85 : decode cX6_leaves 85 = .ok (.aload_n 0, 1) := by decide +kernel
theorem dX6_leaves_86 : decode cX6_leaves 86 = .ok (.getfield 13, 3) := by decide +kernel
theorem dX6_leaves_89 : decode cX6_leaves 89 = .ok (.iload_n 2, 1) := by decide +kernel
theorem dX6_leaves_90 : decode cX6_leaves 90 = .ok (.iaload, 1) := by decide +kernel
theorem dX6_leaves_91 : decode cX6_leaves 91 = .ok (.i2l, 1) := by decide +kernel
theorem dX6_leaves_92 : decode cX6_leaves 92 = .ok (.ladd, 1) := by decide +kernel
theorem dX6_leaves_93 : decode cX6_leaves 93 = .ok (.putfield 155, 3) := by decide +kernel
theorem dX6_leaves_96 : decode cX6_leaves 96 = .ok (.iconst 1, 1) := by decide +kernel
theorem dX6_leaves_97 : decode cX6_leaves 97 = .ok (.ireturn, 1) := by decide +kernel
theorem dX6_pass_0 : decode cX6_pass 0 = .ok (.aload_n 0, 1) := by decide +kernel
theorem dX6_pass_1 : decode cX6_pass 1 = .ok (.iconst 0, 1) := by decide +kernel
theorem dX6_pass_2 : decode cX6_pass 2 = .ok (.putfield 48, 3) := by decide +kernel
theorem dX6_pass_5 : decode cX6_pass 5 = .ok (.iload_n 1, 1) := by decide +kernel
theorem dX6_pass_6 : decode cX6_pass 6 = .ok (.iconst 1, 1) := by decide +kernel
theorem dX6_pass_7 : decode cX6_pass 7 = .ok (.bipush 24, 2) := by decide +kernel
theorem dX6_pass_9 : decode cX6_pass 9 = .ok (.invokestatic 55, 3) := by decide +kernel
theorem dX6_pass_12 : decode cX6_pass 12 = .ok (.ifCond .eq 15, 3) := by decide +kernel
theorem dX6_pass_15 : decode cX6_pass 15 = .ok (.aload_n 0, 1) := by decide +kernel
theorem dX6_pass_16 : decode cX6_pass 16 = .ok (.getfield 126, 3) := by decide +kernel
theorem dX6_pass_19 : decode cX6_pass 19 = .ok (.iload_n 1, 1) := by decide +kernel
theorem dX6_pass_20 : decode cX6_pass 20 = .ok (.iadd, 1) := by decide +kernel
theorem dX6_pass_21 : decode cX6_pass 21 = .ok (.sipush 999, 3) := by decide +kernel
theorem dX6_pass_24 : decode cX6_pass 24 = .ok (.if_icmp .le 9, 3) := by decide +kernel
theorem dX6_pass_27 : decode cX6_pass 27 = .ok (.aload_n 0, 1) := by decide +kernel
theorem dX6_pass_28 : decode cX6_pass 28 = .ok (.iconst 1, 1) := by decide +kernel
theorem dX6_pass_29 : decode cX6_pass 29 = .ok (.invokevirtual 110, 3) := by decide +kernel
theorem dX6_pass_32 : decode cX6_pass 32 = .ok (.ireturn, 1) := by decide +kernel
theorem dX6_pass_33 : decode cX6_pass 33 = .ok (.iconst 0, 1) := by decide +kernel
theorem dX6_pass_34 : decode cX6_pass 34 = .ok (.istore_n 2, 1) := by decide +kernel
theorem dX6_pass_35 : decode cX6_pass 35 = .ok (.iconst 0, 1) := by decide +kernel
theorem dX6_pass_36 : decode cX6_pass 36 = .ok (.istore_n 3, 1) := by decide +kernel
theorem dX6_pass_37 : decode cX6_pass 37 = .ok (.iload_n 3, 1) := by decide +kernel
theorem dX6_pass_38 : decode cX6_pass 38 = .ok (.iload_n 1, 1) := by decide +kernel
theorem dX6_pass_39 : decode cX6_pass 39 = .ok (.if_icmp .ge 120, 3) := by decide +kernel
theorem dX6_pass_42 : decode cX6_pass 42 = .ok (.aload_n 0, 1) := by decide +kernel
theorem dX6_pass_43 : decode cX6_pass 43 = .ok (.dup, 1) := by decide +kernel
theorem dX6_pass_44 : decode cX6_pass 44 = .ok (.getfield 126, 3) := by decide +kernel
theorem dX6_pass_47 : decode cX6_pass 47 = .ok (.iconst 1, 1) := by decide +kernel
theorem dX6_pass_48 : decode cX6_pass 48 = .ok (.iadd, 1) := by decide +kernel
theorem dX6_pass_49 : decode cX6_pass 49 = .ok (.putfield 126, 3) := by decide +kernel
theorem dX6_pass_52 : decode cX6_pass 52 = .ok (.iconst 0, 1) := by decide +kernel
theorem dX6_pass_53 : decode cX6_pass 53 = .ok (.istore 4, 2) := by decide +kernel
theorem dX6_pass_55 : decode cX6_pass 55 = .ok (.iload 4, 2) := by decide +kernel
theorem dX6_pass_57 : decode cX6_pass 57 = .ok (.aload_n 0, 1) := by decide +kernel
theorem dX6_pass_58 : decode cX6_pass 58 = .ok (.getfield 52, 3) := by decide +kernel
theorem dX6_pass_61 : decode cX6_pass 61 = .ok (.if_icmp .ge 42, 3) := by decide +kernel
theorem dX6_pass_64 : decode cX6_pass 64 = .ok (.aload_n 0, 1) := by decide +kernel
theorem dX6_pass_65 : decode cX6_pass 65 = .ok (.getfield 20, 3) := by decide +kernel
theorem dX6_pass_68 : decode cX6_pass 68 = .ok (.iload 4, 2) := by decide +kernel
theorem dX6_pass_70 : decode cX6_pass 70 = .ok (.aload_n 0, 1) := by decide +kernel
theorem dX6_pass_71 : decode cX6_pass 71 = .ok (.getfield 24, 3) := by decide +kernel
theorem dX6_pass_74 : decode cX6_pass 74 = .ok (.iload 4, 2) := by decide +kernel
theorem dX6_pass_76 : decode cX6_pass 76 = .ok (.iaload, 1) := by decide +kernel
theorem dX6_pass_77 : decode cX6_pass 77 = .ok (.aload_n 0, 1) := by decide +kernel
theorem dX6_pass_78 : decode cX6_pass 78 = .ok (.getfield 126, 3) := by decide +kernel
theorem dX6_pass_81 : decode cX6_pass 81 = .ok (.if_icmp .ne 8, 3) := by decide +kernel
theorem dX6_pass_84 : decode cX6_pass 84 = .ok (.bipush 45, 2) := by decide +kernel
theorem dX6_pass_86 : decode cX6_pass 86 = .ok (.goto 10, 3) := by decide +kernel
theorem dX6_pass_89 : decode cX6_pass 89 = .ok (.aload_n 0, 1) := by decide +kernel
theorem dX6_pass_90 : decode cX6_pass 90 = .ok (.getfield 20, 3) := by decide +kernel
theorem dX6_pass_93 : decode cX6_pass 93 = .ok (.iload 4, 2) := by decide +kernel
theorem dX6_pass_95 : decode cX6_pass 95 = .ok (.caload, 1) := by decide +kernel
theorem dX6_pass_96 : decode cX6_pass 96 = .ok (.castore, 1) := by decide +kernel
theorem dX6_pass_97 : decode cX6_pass 97 = .ok (.iinc 4 1, 3) := by decide +kernel
theorem dX6_pass_100 : decode cX6_pass 100 = .ok (.goto (-45), 3) := by decide +kernel
theorem dX6_pass_103 : decode cX6_pass 103 = .ok (.iconst 0, 1) := by decide +kernel
theorem dX6_pass_104 : decode cX6_pass 104 = .ok (.istore 4, 2) := by decide +kernel
theorem dX6_pass_106 : decode cX6_pass 106 = .ok (.iload 4, 2) := by decide +kernel
theorem dX6_pass_108 : decode cX6_pass 108 = .ok (.iconst 3, 1) := by decide +kernel
theorem dX6_pass_109 : decode cX6_pass 109 = .ok (.if_icmp .ge 44, 3) := by decide +kernel
theorem dX6_pass_112 : decode cX6_pass 112 = .ok (.aload_n 0, 1) := by decide +kernel
theorem dX6_pass_113 : decode cX6_pass 113 = .ok (.iload 4, 2) := by decide +kernel
theorem dX6_pass_115 : decode cX6_pass 115 = .ok (.aload_n 0, 1) := by decide +kernel
theorem dX6_pass_116 : decode cX6_pass 116 = .ok (.getfield 126, 3) := by decide +kernel
theorem dX6_pass_119 : decode cX6_pass 119 = .ok (.invokevirtual 148, 3) := by decide +kernel
theorem dX6_pass_122 : decode cX6_pass 122 = .ok (.istore 5, 2) := by decide +kernel
theorem dX6_pass_124 : decode cX6_pass 124 = .ok (.iload_n 2, 1) := by decide +kernel
theorem dX6_pass_125 : decode cX6_pass 125 = .ok (.iload 5, 2) := by decide +kernel
theorem dX6_pass_127 : decode cX6_pass 127 = .ok (.iconst (-1), 1) := by decide +kernel
theorem dX6_pass_128 : decode cX6_pass 128 = .ok (.if_icmp .eq 16, 3) := by decide +kernel
theorem dX6_pass_131 : decode cX6_pass 131 = .ok (.aload_n 0, 1) := by decide +kernel
theorem dX6_pass_132 : decode cX6_pass 132 = .ok (.iload 5, 2) := by decide +kernel
theorem dX6_pass_134 : decode cX6_pass 134 = .ok (.invokevirtual 159, 3) := by decide +kernel
theorem dX6_pass_137 : decode cX6_pass 137 = .ok (.ifCond .eq 7, 3) := by decide +kernel
theorem dX6_pass_140 : decode cX6_pass 140 = .ok (.iconst 1, 1) := by decide +kernel
theorem dX6_pass_141 : decode cX6_pass 141 = .ok (.goto 4, 3) := by decide +kernel
theorem dX6_pass_144 : decode cX6_pass 144 = .ok (.iconst 0, 1) := by decide +kernel
theorem dX6_pass_145 : decode cX6_pass 145 = .ok (.iadd, 1) := by decide +kernel
theorem dX6_pass_146 : decode cX6_pass 146 = .ok (.istore_n 2, 1) := by decide +kernel
theorem dX6_pass_147 : decode cX6_pass 147 = .ok (.iinc 4 1, 3) := by decide +kernel
theorem dX6_pass_150 : decode cX6_pass 150 = .ok (.goto (-44), 3) := by decide +kernel
theorem dX6_pass_153 : decode cX6_pass 153 = .ok (.iinc 3 1, 3) := by decide +kernel
theorem dX6_pass_156 : decode cX6_pass 156 = .ok (.goto (-119), 3) := by decide +kernel
theorem dX6_pass_159 : decode cX6_pass 159 = .ok (.iload_n 2, 1) := by decide +kernel
theorem dX6_pass_160 : decode cX6_pass 160 = .ok (.ireturn, 1) := by decide +kernel
theorem dX6_now_0 : decode cX6_now 0 = .ok (.aload_n 0, 1) := by decide +kernel
theorem dX6_now_1 : decode cX6_now 1 = .ok (.iconst 0, 1) := by decide +kernel
theorem dX6_now_2 : decode cX6_now 2 = .ok (.putfield 48, 3) := by decide +kernel
theorem dX6_now_5 : decode cX6_now 5 = .ok (.aload_n 0, 1) := by decide +kernel
theorem dX6_now_6 : decode cX6_now 6 = .ok (.getfield 126, 3) := by decide +kernel
theorem dX6_now_9 : decode cX6_now 9 = .ok (.ireturn, 1) := by decide +kernel
theorem dX6_weightLeft_0 : decode cX6_weightLeft 0 = .ok (.aload_n 0, 1) := by decide +kernel
theorem dX6_weightLeft_1 : decode cX6_weightLeft 1 = .ok (.iconst 0, 1) := by decide +kernel
theorem dX6_weightLeft_2 : decode cX6_weightLeft 2 = .ok (.putfield 48, 3) := by decide +kernel
theorem dX6_weightLeft_5 : decode cX6_weightLeft 5 = .ok (.aload_n 0, 1) := by decide +kernel
theorem dX6_weightLeft_6 : decode cX6_weightLeft 6 = .ok (.getfield 155, 3) := by decide +kernel
theorem dX6_weightLeft_9 : decode cX6_weightLeft 9 = .ok (.lreturn, 1) := by decide +kernel
theorem dX6_doneShare_0 : decode cX6_doneShare 0 = .ok (.aload_n 0, 1) := by decide +kernel
theorem dX6_doneShare_1 : decode cX6_doneShare 1 = .ok (.iconst 0, 1) := by decide +kernel
theorem dX6_doneShare_2 : decode cX6_doneShare 2 = .ok (.putfield 48, 3) := by decide +kernel
theorem dX6_doneShare_5 : decode cX6_doneShare 5 = .ok (.aload_n 0, 1) := by decide +kernel
theorem dX6_doneShare_6 : decode cX6_doneShare 6 = .ok (.bipush 100, 2) := by decide +kernel
theorem dX6_doneShare_8 : decode cX6_doneShare 8 = .ok (.invokevirtual 151, 3) := by decide +kernel
theorem dX6_doneShare_11 : decode cX6_doneShare 11 = .ok (.aload_n 0, 1) := by decide +kernel
theorem dX6_doneShare_12 : decode cX6_doneShare 12 = .ok (.bipush 109, 2) := by decide +kernel
theorem dX6_doneShare_14 : decode cX6_doneShare 14 = .ok (.invokevirtual 151, 3) := by decide +kernel
theorem dX6_doneShare_17 : decode cX6_doneShare 17 = .ok (.iadd, 1) := by decide +kernel
theorem dX6_doneShare_18 : decode cX6_doneShare 18 = .ok (.aload_n 0, 1) := by decide +kernel
theorem dX6_doneShare_19 : decode cX6_doneShare 19 = .ok (.bipush 103, 2) := by decide +kernel
theorem dX6_doneShare_21 : decode cX6_doneShare 21 = .ok (.invokevirtual 151, 3) := by decide +kernel
theorem dX6_doneShare_24 : decode cX6_doneShare 24 = .ok (.iadd, 1) := by decide +kernel
theorem dX6_doneShare_25 : decode cX6_doneShare 25 = .ok (.istore_n 1, 1) := by decide +kernel
theorem dX6_doneShare_26 : decode cX6_doneShare 26 = .ok (.iload_n 1, 1) := by decide +kernel
theorem dX6_doneShare_27 : decode cX6_doneShare 27 = .ok (.ifCond .ne 10, 3) := by decide +kernel
theorem dX6_doneShare_30 : decode cX6_doneShare 30 = .ok (.aload_n 0, 1) := by decide +kernel
theorem dX6_doneShare_31 : decode cX6_doneShare 31 = .ok (.iconst 1, 1) := by decide +kernel
theorem dX6_doneShare_32 : decode cX6_doneShare 32 = .ok (.putfield 48, 3) := by decide +kernel
theorem dX6_doneShare_35 : decode cX6_doneShare 35 = .ok (.fconst 0, 1) := by decide +kernel
theorem dX6_doneShare_36 : decode cX6_doneShare 36 = .ok (.freturn, 1) := by decide +kernel
theorem dX6_doneShare_37 : decode cX6_doneShare 37 = .ok (.aload_n 0, 1) := by decide +kernel
theorem dX6_doneShare_38 : decode cX6_doneShare 38 = .ok (.bipush 100, 2) := by decide +kernel
theorem dX6_doneShare_40 : decode cX6_doneShare 40 = .ok (.invokevirtual 151, 3) := by decide +kernel
theorem dX6_doneShare_43 : decode cX6_doneShare 43 = .ok (.i2f, 1) := by decide +kernel
theorem dX6_doneShare_44 : decode cX6_doneShare 44 = .ok (.iload_n 1, 1) := by decide +kernel
theorem dX6_doneShare_45 : decode cX6_doneShare 45 = .ok (.i2f, 1) := by decide +kernel
theorem dX6_doneShare_46 : decode cX6_doneShare 46 = .ok (.fdiv, 1) := by decide +kernel
theorem dX6_doneShare_47 : decode cX6_doneShare 47 = .ok (.freturn, 1) := by decide +kernel
end
section
/-! THE SMALL MACHINE: all cells of the law's run in one numbered world; numbers are Ints; a method's walk over (heap, pc, locals, stack) -/
def iI (x : Int) : Int32 := Int32.ofInt x
def lI (x : Int) : Int64 := Int64.ofInt x
abbrev qHp : Type := Nat → Int → Int
abbrev qFd : Type := Nat ⊕ Bool
abbrev qLy : Type := (Nat × Nat) ⊕ (Nat × List qFd)
/-- what cell k is: an array (kind, length), or an object (class, fields: a cell named for good, or a number: int, long) -/
def qLay : Nat → qLy := fun k => match k with
  | 0 => .inr (5, [.inl 1, .inl 5, .inl 15, .inl 18, .inr false, .inr false, .inr true])
  | 1 => .inr (0, [.inl 2, .inl 3, .inl 4, .inr false])
  | 2 => .inl (0, 20)
  | 3 => .inl (1, 20)
  | 4 => .inl (0, 20)
  | 5 => .inr (4, [.inl 1, .inl 6, .inl 7, .inl 8, .inl 9, .inr false, .inr false])
  | 6 => .inl (0, 4)
  | 7 => .inl (0, 4)
  | 8 => .inl (0, 16)
  | 9 => .inl (0, 20)
  | 10 => .inr (4, [.inl 1, .inl 11, .inl 12, .inl 13, .inl 14, .inr false, .inr false])
  | 11 => .inl (0, 4)
  | 12 => .inl (0, 4)
  | 13 => .inl (0, 16)
  | 14 => .inl (0, 20)
  | 15 => .inr (3, [.inl 5, .inl 10, .inl 16, .inr true])
  | 16 => .inr (2, [.inl 17, .inr false])
  | 17 => .inl (3, 1024)
  | 18 => .inr (1, [.inl 19, .inl 20, .inl 21, .inl 22, .inr false])
  | 19 => .inl (0, 30)
  | 20 => .inl (0, 30)
  | 21 => .inl (0, 30)
  | 22 => .inl (1, 30)
  | 23 => .inr (6, [.inr false, .inr false, .inr false, .inl 24, .inr false, .inl 25, .inl 26, .inl 27, .inl 28, .inl 29, .inl 30, .inl 31, .inr false, .inr false, .inl 32, .inl 33, .inl 34, .inl 35, .inr true])
  | 24 => .inl (0, 4)
  | 25 => .inl (0, 20)
  | 26 => .inl (2, 20)
  | 27 => .inl (1, 20)
  | 28 => .inl (0, 20)
  | 29 => .inl (0, 24)
  | 30 => .inl (0, 96)
  | 31 => .inl (0, 6)
  | 32 => .inl (0, 30)
  | 33 => .inl (0, 30)
  | 34 => .inl (0, 30)
  | 35 => .inl (1, 30)
  | 36 => .inl (3, 1)
  | _ => .inl (4, 1)
/-- what a cell's numbers lie between -/
def qRng : Nat → Int → Int × Int := fun k j => match k with
  | 0 => bif j == 4 then (0, 999) else bif j == 5 then (-2147483648, 2147483647) else (-9223372036854775808, 9223372036854775807)
  | 1 => (0, 20)
  | 2 => (0, 30)
  | 3 => (0, 65535)
  | 4 => (0, 1000)
  | 5 => bif j == 5 then (0, 4) else (-2147483648, 2147483647)
  | 6 => (0, 4)
  | 7 => (0, 4)
  | 8 => (0, 19)
  | 9 => (-1, 3)
  | 10 => bif j == 5 then (0, 4) else (-2147483648, 2147483647)
  | 11 => (0, 4)
  | 12 => (0, 4)
  | 13 => (0, 19)
  | 14 => (-1, 3)
  | 15 => (0, 1099511627775)
  | 16 => (0, 1024)
  | 17 => (0, 1099511627775)
  | 18 => (0, 30)
  | 19 => (0, 19)
  | 20 => (0, 999)
  | 21 => (0, 2)
  | 22 => (0, 65535)
  | 23 => bif j == 0 then (0, 4) else bif j == 1 then (0, 999) else bif j == 2 then (0, 4) else bif j == 4 then (0, 20) else bif j == 12 then (-2147483648, 2147483647) else bif j == 13 then (0, 30) else (-9223372036854775808, 9223372036854775807)
  | 24 => (0, 4)
  | 25 => (0, 30)
  | 26 => (0, 1)
  | 27 => (0, 65535)
  | 28 => (0, 1000)
  | 29 => (0, 4)
  | 30 => (0, 19)
  | 31 => (0, 79)
  | 32 => (0, 19)
  | 33 => (0, 999)
  | 34 => (0, 2)
  | 35 => (0, 65535)
  | 36 => (-9223372036854775808, 9223372036854775807)
  | _ => (0, 18446744073709551615)
def qNm (g : qHp) : Prop := ∀ k j, (qRng k j).1 ≤ g k j ∧ g k j ≤ (qRng k j).2
def qUp (g : qHp) (k : Nat) (j v : Int) : qHp := fun k' j' => if k' = k ∧ j' = j then v else g k' j'
def qFv (ad : Nat → Nat) (r : Int → Int) (j : Nat) : qFd → Value := fun d => match d with
  | .inl t => .ref (ad t)
  | .inr true => .long (lI (r j))
  | .inr false => .int (iI (r j))
def qFs (ad : Nat → Nat) (r : Int → Int) : Nat → List qFd → List Value
  | _, [] => []
  | j, d :: ds => qFv ad r j d :: qFs ad r (j + 1) ds
def qAr (t n : Nat) (r : Int → Int) : vp_A := match t with
  | 3 => (n, .inr (.inl fun j => lI (r j)))
  | 4 => (n, .inr (.inr (.inr (.inl fun j => UInt64.ofNat (r j).toNat))))
  | _ => (n, .inl fun j => iI (r j))
def qFt (t : Nat) : FieldType := match t with
  | 0 => .int
  | 1 => .char
  | 2 => .boolean
  | 3 => .long
  | _ => .double
abbrev qOm : Type := (Nat → Nat) × (Nat → ClassId) × va_G × Nat
def qCe (ad : Nat → Nat) (cy : Nat → ClassId) (g : qHp) (k : Nat) : va_E := match qLay k with
  | .inl a => .inl (cy a.1, qAr a.1 a.2 (g k))
  | .inr o => .inr (o.1, qFs ad (g k) 0 o.2)
def qWs (ad : Nat → Nat) (cy : Nat → ClassId) (g : qHp) : va_W := (List.range 38).map (fun k => (ad k, qCe ad cy g k))
def qTys (cy : Nat → ClassId) : List (ClassId × FieldType) := [(cy 0, .int), (cy 1, .char), (cy 2, .boolean), (cy 3, .long), (cy 4, .double)]
/-- the tables' good words; those that want a warming of their own -/
def qAW : List Cond := lw_tbl.filter goodWord
def qNgw : Cond → Bool
  | .castable .. => true
  | .declares .. => true
  | .methodLinkNest .. => true
  | _ => false
def qNg : List Cond := lw_tbl.filter qNgw
def qX5 : List String := ["java/lang/IndexOutOfBoundsException", "java/lang/IllegalArgumentException", "java/lang/UnsupportedOperationException", "java/lang/IllegalStateException", "java/util/NoSuchElementException"]
def qSr : List (Nat × String) := [(119, "there is no box at this level"), (122, "there is no such kind of hold"), (128, "the hour is not behind this one and at most 1000"), (140, "the box has no hold"), (159, "the box cannot be moved there"), (176, "there is no plan"), (193, "the hour is not behind this one, or greater than 999"), (198, "the box has a hold that lasts in this hour"), (206, "the box has an appointment, or the lane has one for the hour"), (211, "30 appointments have been booked"), (222, "the appointment is not booked"), (232, "the box has no booked appointment"), (234, "the hour is not between 0 and 999"), (239, "there is no such hour up to 999"), (241, "the hours are not between 1 and 24, or go beyond 999"), (253, "no appointment is done, missed or given back"), (260, "there is no such stack"), (263, "there is no such box in the yard"), (265, "there is no such lane"), (267, "there is no such appointment"), (272, "the plan has no such move"), (43, "the reach is not between 1 and 4"), (54, "there are 4 stacks"), (65, "the weight is not between 1 and 30"), (77, "the box cannot be put onto the stack"), (86, "8 boxes are in the yard, or 20 have come")]
abbrev qA (ω : qOm) : Nat → Prop := fun q => ω.2.2.2 ≤ q
def qSt (ω : qOm) (s : State) : Prop := va_K ω.2.2.1 vwCl (qTys ω.2.1) s ∧ vx_Zq Bundle.tN "UNASSIGNED_STACK" Bundle.steD (qA ω) s s.heap ∧ vx_Zq Bundle.tN "SUPPRESSED_SENTINEL" Bundle.listD (qA ω) s s.heap ∧ (∀ q ∈ qSr, ∃ a, vk_R "Quaylock" q.1 q.2 a s) ∧ (∀ w ∈ qNg, va_Nw w s) ∧ (∀ E ∈ qX5, ∀ F ∈ qX5, E ≠ F → va_Nc E F s) ∧ ω.2.2.2 ≤ s.heap.size
def qDy (ω : qOm) (g : qHp) (H : Heap) : Prop := va_P ω.2.2.1 vwCl (qWs ω.1 ω.2.1 g) H ∧ va_D (qA ω) (qWs ω.1 ω.2.1 g) ∧ qNm g
abbrev qEnv : Type := Program × Launch × Env × Room × State × MethodId × Array Value × List Frame × Method × Code
/-- a method's walk stands here: its code, its tables, its world's names -/
def qCx (X : qEnv) (ω : qOm) (own : String) (cc : ByteArray) (nL : Nat) (ret : Option FieldType) (T : List ExceptionTableEntry) (fr mc : Nat) : Prop := match X with
  | (p, l, _, R, s, m, args, _, meth, c) => p.tables.exec = Jvm.exec ∧ c.code = cc ∧ meth.sig.returnType = ret ∧ c.maxLocals = nL ∧ s.vm.findClass own = some m.cls ∧ (∀ w ∈ qAW, w.before args s = true) ∧ meth.locks = false ∧ c.exceptionTable.toList = T ∧ l.stackTraces = false ∧ qSt ω s ∧ R.frames = fr ∧ R.locals = 40 * fr ∧ mc ≤ R.cells ∧ 6 * mc ≤ R.slots
def lkp : List (Nat × Value) → Nat → Option Value
  | [], _ => none
  | q :: t, i => bif q.1 == i then some q.2 else lkp t i
def sto1 (ls : List (Nat × Value)) (i : Nat) (v : Value) : List (Nat × Value) := (i, v) :: ls.filter (fun q => !(q.1 == i) && !(q.1 + 1 == i && q.2.category == 2))
def sto2 (ls : List (Nat × Value)) (i : Nat) (v : Value) : List (Nat × Value) := (i, v) :: ls.filter (fun q => !(q.1 == i) && (!(q.1 == i + 1) && !(q.1 + 1 == i && q.2.category == 2)))
def lsub (ls : List (Nat × Value)) : List (Nat × Value) → Prop
  | [] => True
  | q :: t => lkp ls q.1 = some q.2 ∧ lsub ls t
/-- the walk: from every state with this heap, at this pc, with these locals and this stack, the machine comes to Q; k: cells that may have come -/
def qT (X : qEnv) (ω : qOm) (nL k : Nat) (Q : State → Prop) (g : qHp) (pc : Nat) (ls : List (Nat × Value)) (st : List Value) : Prop := match X with
  | (p, l, e, R, s, m, args, below, meth, c) => ∀ (H : Heap) (locs : List Loc) (la : Array Slot), qDy ω g H → va_S (qA ω) s.heap H locs → lv_has la nL ls → W p l e R s m args below meth c H locs k (6 * k) Q (F0 m pc la st)
def qQc (ω : qOm) (Post : Option Value → qHp → Prop) : Array Value → State → Outcome → State → Prop := fun _ st oc t => ∃ v g', oc = .returned v ∧ Post v g' ∧ qDy ω g' t.heap ∧ va_F (qA ω) st t
def qXc (ω : qOm) (PX : String → qHp → Prop) : String → State → State → Prop := fun E st t => ∃ g', PX E g' ∧ qDy ω g' t.heap ∧ va_F (qA ω) st t
def qRm (fr mc : Nat) : Room := { frames := fr, cells := mc, slots := 6 * mc, locals := 40 * fr }
/-- the words of every method: its own code, then the tables' -/
def qWds (cd : Cond) : List Cond := cd :: qAW
/-- a method's contract: from every heap g of the small machine, with these arguments, it returns with Post, or throws with PX -/
def qCt (l : Launch) (y : MethodName) (cd : Cond) (fr mc : Nat) (av : (Nat → Nat) → List Value) (g : qHp) (Post : Option Value → qHp → Prop) (PX : String → qHp → Prop) : Prop := ∀ ω : qOm, vx_Met l y (qWds cd) (qRm fr mc) (va_Pc (av ω.1) (fun U => qSt ω U ∧ qDy ω g U.heap)) (qQc ω Post) (qXc ω PX) mc (6 * mc) (qA ω)
def qEnd (X : qEnv) (ω : qOm) (Post : Option Value → qHp → Prop) (PX : String → qHp → Prop) (mc : Nat) : State → Prop := match X with
  | (_, _, _, _, s, _, args, below, _, _) => vx_MQ below (qQc ω Post) (qXc ω PX) args s mc (6 * mc) (qA ω)
def qPi (P : Int → qHp → Prop) : Option Value → qHp → Prop := fun v g => ∃ r : Int, v = some (.int (iI r)) ∧ (-2147483648 ≤ r ∧ r < 2147483648) ∧ P r g
def qPl (P : Int → qHp → Prop) : Option Value → qHp → Prop := fun v g => ∃ r : Int, v = some (.long (lI r)) ∧ (-9223372036854775808 ≤ r ∧ r < 9223372036854775808) ∧ P r g
def qPf (P : UInt32 → qHp → Prop) : Option Value → qHp → Prop := fun v g => ∃ r : UInt32, v = some (.float r) ∧ P r g
def qPv (P : qHp → Prop) : Option Value → qHp → Prop := fun v g => v = none ∧ P g
def qNo : String → qHp → Prop := fun _ _ => False
/-! plain facts -/
theorem iI_add (a b : Int) : iI a + iI b = iI (a + b) := (Int32.ofInt_add a b).symm
theorem iI_sub (a b : Int) : iI a - iI b = iI (a - b) := (Int32.ofInt_sub a b).symm
theorem iI_mul (a b : Int) : iI a * iI b = iI (a * b) := (Int32.ofInt_mul a b).symm
theorem lI_add (a b : Int) : lI a + lI b = lI (a + b) := (Int64.ofInt_add a b).symm
theorem lI_sub (a b : Int) : lI a - lI b = lI (a - b) := (Int64.ofInt_sub a b).symm
theorem iI_t {a : Int} (h : -2147483648 ≤ a ∧ a < 2147483648) : (iI a).toInt = a := Int32.toInt_ofInt_of_le (by omega) (by omega)
theorem lI_t {a : Int} (h : -9223372036854775808 ≤ a ∧ a < 9223372036854775808) : (lI a).toInt = a := Int64.toInt_ofInt_of_le (by omega) (by omega)
theorem iI_of (x : Int32) : x = iI x.toInt := (Int32.ofInt_toInt x).symm
theorem iI_rng (x : Int32) : -2147483648 ≤ x.toInt ∧ x.toInt < 2147483648 := ⟨Int32.le_toInt x, Int32.toInt_lt x⟩
theorem iI_lt {a b : Int} (ha : -2147483648 ≤ a ∧ a < 2147483648) (hb : -2147483648 ≤ b ∧ b < 2147483648) : iI a < iI b ↔ a < b := by rw [Int32.lt_iff_toInt_lt, iI_t ha, iI_t hb]
theorem iI_le {a b : Int} (ha : -2147483648 ≤ a ∧ a < 2147483648) (hb : -2147483648 ≤ b ∧ b < 2147483648) : iI a ≤ iI b ↔ a ≤ b := by rw [Int32.le_iff_toInt_le, iI_t ha, iI_t hb]
theorem iI_eq {a b : Int} (ha : -2147483648 ≤ a ∧ a < 2147483648) (hb : -2147483648 ≤ b ∧ b < 2147483648) : iI a = iI b ↔ a = b := by rw [← Int32.toInt_inj, iI_t ha, iI_t hb]
theorem iI_0 : (0 : Int32) = iI 0 := by decide +kernel
theorem iI_cl {a : Int} (h : 0 ≤ a ∧ a < 2147483648) : (iI a).toNatClampNeg = a.toNat := Int32.toNatClampNeg_ofInt_of_le (by omega) (by omega)
theorem iI_in {a : Int} {n : Nat} (h : 0 ≤ a ∧ a < n) (hn : n < 2147483648) : vp_in (iI a) n := by
  rw [vp_in_iff, iI_t (by omega)]
  exact h
theorem iI_l {a : Int} (h : -2147483648 ≤ a ∧ a < 2147483648) : (iI a).toInt64 = lI a := Int32.toInt64_ofInt (by show (-2147483648 : Int) ≤ a; omega) (by show a ≤ (2147483647 : Int); omega)
theorem lI_i (a : Int) : (lI a).toInt32 = iI a := Int64.toInt32_ofInt
theorem qUp_s (g : qHp) (k : Nat) (j v : Int) : qUp g k j v k j = v := by simp [qUp]
theorem qUp_k {g : qHp} {k k' : Nat} {j j' v : Int} (h : k' ≠ k) : qUp g k j v k' j' = g k' j' := by simp [qUp, h]
theorem qUp_j {g : qHp} {k k' : Nat} {j j' v : Int} (h : j' ≠ j) : qUp g k j v k' j' = g k' j' := by simp [qUp, h]
theorem qUp_row {g : qHp} {k k' : Nat} {j v : Int} (h : k' ≠ k) : qUp g k j v k' = g k' := by funext x; exact qUp_k h
theorem qUp_nm {g : qHp} {k : Nat} {j v : Int} (h : qNm g) (hv : (qRng k j).1 ≤ v ∧ v ≤ (qRng k j).2) : qNm (qUp g k j v) := by
  intro k' j'
  by_cases e : k' = k ∧ j' = j
  · obtain ⟨rfl, rfl⟩ := e
    rw [qUp_s]; exact hv
  · have : qUp g k j v k' j' = g k' j' := by simp [qUp, e]
    rw [this]; exact h k' j'
theorem qWs_get (ad : Nat → Nat) (cy : Nat → ClassId) (g : qHp) {k : Nat} (h : k < 38) : (qWs ad cy g)[k]? = some (ad k, qCe ad cy g k) := by
  simp [qWs, List.getElem?_map, List.getElem?_range h]
theorem qCe_k {ad : Nat → Nat} {cy : Nat → ClassId} {g : qHp} {k k' : Nat} {j v : Int} (h : k' ≠ k) : qCe ad cy (qUp g k j v) k' = qCe ad cy g k' := by
  unfold qCe
  rw [qUp_row h]
theorem qWs_set {ad : Nat → Nat} {cy : Nat → ClassId} {g : qHp} {k : Nat} {j v : Int} (h : k < 38) : (qWs ad cy g).set k (ad k, qCe ad cy (qUp g k j v) k) = qWs ad cy (qUp g k j v) := by
  apply List.ext_getElem?
  intro i
  by_cases hi : i = k
  · subst hi
    rw [List.getElem?_set_self (by simp [qWs]; exact h), qWs_get _ _ _ h]
  · rw [List.getElem?_set_ne (Ne.symm hi)]
    simp only [qWs, List.getElem?_map]
    cases hr : (List.range 38)[i]? with
    | none => rfl
    | some a =>
      have ha : a = i := by
        have h2 := List.getElem?_eq_some_iff.mp hr
        obtain ⟨h3, h4⟩ := h2
        rw [List.getElem_range] at h4
        exact h4.symm
      subst ha
      simp only [Option.map_some]
      rw [qCe_k hi]
theorem qFs_get (ad : Nat → Nat) (r : Int → Int) : ∀ (ds : List qFd) (o i : Nat) (d : qFd), ds[i]? = some d → (qFs ad r o ds)[i]? = some (qFv ad r (o + i) d)
  | [], _, _, _, h => by simp at h
  | e :: ds, o, 0, d, h => by
    simp at h
    subst h
    simp [qFs]
  | e :: ds, o, i + 1, d, h => by
    simp only [List.getElem?_cons_succ] at h
    simp only [qFs, List.getElem?_cons_succ]
    rw [qFs_get ad r ds (o + 1) i d h]
    congr 2
    omega
theorem qFs_len (ad : Nat → Nat) (r : Int → Int) : ∀ (ds : List qFd) (o : Nat), (qFs ad r o ds).length = ds.length
  | [], _ => rfl
  | e :: ds, o => by simp [qFs, qFs_len ad r ds (o + 1)]
theorem qFs_eq (ad : Nat → Nat) (r r' : Int → Int) : ∀ (ds : List qFd) (o : Nat), (∀ i : Nat, o ≤ i → r' i = r i) → qFs ad r' o ds = qFs ad r o ds
  | [], _, _ => rfl
  | e :: ds, o, h => by
    simp only [qFs]
    rw [qFs_eq ad r r' ds (o + 1) (fun i hi => h i (by omega))]
    have e1 : qFv ad r' o e = qFv ad r o e := by
      unfold qFv
      rw [h o (Nat.le_refl o)]
    rw [e1]
theorem qFs_set (ad : Nat → Nat) (r : Int → Int) (v : Int) : ∀ (ds : List qFd) (o i : Nat) (b : Bool), ds[i]? = some (.inr b) → (qFs ad r o ds).set i (qFv ad (fun j => if j = ((o + i : Nat) : Int) then v else r j) (o + i) (.inr b)) = qFs ad (fun j => if j = ((o + i : Nat) : Int) then v else r j) o ds
  | [], _, _, _, h => by simp at h
  | e :: ds, o, 0, b, h => by
    simp at h
    subst h
    simp only [qFs, List.set_cons_zero, Nat.add_zero]
    congr 1
    refine (qFs_eq ad r _ ds (o + 1) ?_).symm
    intro i hi
    have : ¬ ((i : Int) = (o : Int)) := by omega
    simp [this]
  | e :: ds, o, i + 1, b, h => by
    simp only [List.getElem?_cons_succ] at h
    have h2 := qFs_set ad r v ds (o + 1) i b h
    have e0 : o + (i + 1) = o + 1 + i := by omega
    rw [e0]
    simp only [qFs, List.set_cons_succ]
    rw [h2]
    congr 1
    have hne : ¬ ((o : Int) = ((o + 1 + i : Nat) : Int)) := by omega
    cases e with
    | inl t => rfl
    | inr b2 => cases b2 <;> simp only [qFv, if_neg hne]
theorem lkp_at {la : Array Slot} {nL : Nat} {ls : List (Nat × Value)} (h : lv_has la nL ls) {i : Nat} {v : Value} (hk : lkp ls i = some v) : la[i]? = some (.val v) := by
  have key : ∀ l : List (Nat × Value), lkp l i = some v → (i, v) ∈ l := by
    intro l
    induction l with
    | nil => intro h; cases h
    | cons q t ih =>
      intro h
      unfold lkp at h
      cases hq : (q.1 == i) with
      | true =>
        rw [hq] at h
        cases h
        have : q.1 = i := by simpa using hq
        subst this
        exact List.mem_cons_self
      | false =>
        rw [hq] at h
        exact List.mem_cons_of_mem _ (ih h)
  exact h.2.2 (i, v) (key ls hk)
theorem lsub_has {la : Array Slot} {nL : Nat} {ls : List (Nat × Value)} (h : lv_has la nL ls) : ∀ {l' : List (Nat × Value)}, lsub ls l' → lv_has la nL l' := by
  intro l' hl
  refine ⟨h.1, h.2.1, ?_⟩
  induction l' with
  | nil => intro q hq; cases hq
  | cons a t ih =>
    intro q hq
    rcases List.mem_cons.mp hq with rfl | hq
    · exact lkp_at h hl.1
    · exact ih hl.2 q hq
end
section
/-! rows of the small machine: an instruction each -/
section QR
variable {X : qEnv} {ω : qOm} {own : String} {cc : ByteArray} {nL : Nat} {ret : Option FieldType} {T : List ExceptionTableEntry} {fr mc k : Nat} {Q : State → Prop} {g : qHp} {pc : Nat} {ls : List (Nat × Value)} {st : List Value}
theorem q_iconst (C : qCx X ω own cc nL ret T fr mc) {n : Int} (hd : decode cc pc = .ok (.iconst n, 1)) (kk : qT X ω nL k Q g (pc + 1) ls (.int (iI n) :: st)) : qT X ω nL k Q g pc ls st := by
  obtain ⟨p, l, e, R, s, m, args, below, meth, c⟩ := X
  obtain ⟨hx, hb, hr, hml, hown, hts, -⟩ := C
  intro H locs la hw hS hl
  exact lv_iconst (v := iI n) hx hb hd rfl (kk H locs la hw hS hl)
theorem q_bipush (C : qCx X ω own cc nL ret T fr mc) {n : Int} (hd : decode cc pc = .ok (.bipush n, 2)) (hv : (Int8.ofInt n).toInt32 = iI n) (kk : qT X ω nL k Q g (pc + 2) ls (.int (iI n) :: st)) : qT X ω nL k Q g pc ls st := by
  obtain ⟨p, l, e, R, s, m, args, below, meth, c⟩ := X
  obtain ⟨hx, hb, hr, hml, hown, hts, -⟩ := C
  intro H locs la hw hS hl
  exact lv_bipush (v := iI n) hx hb hd hv (kk H locs la hw hS hl)
theorem q_sipush (C : qCx X ω own cc nL ret T fr mc) {n : Int} (hd : decode cc pc = .ok (.sipush n, 3)) (hv : (Int16.ofInt n).toInt32 = iI n) (kk : qT X ω nL k Q g (pc + 3) ls (.int (iI n) :: st)) : qT X ω nL k Q g pc ls st := by
  obtain ⟨p, l, e, R, s, m, args, below, meth, c⟩ := X
  obtain ⟨hx, hb, hr, hml, hown, hts, -⟩ := C
  intro H locs la hw hS hl
  exact lv_sipush (v := iI n) hx hb hd hv (kk H locs la hw hS hl)
theorem q_lconst0 (C : qCx X ω own cc nL ret T fr mc)  (hd : decode cc pc = .ok (.lconst 0, 1)) (kk : qT X ω nL k Q g (pc + 1) ls (.long (lI 0) :: st)) : qT X ω nL k Q g pc ls st := by
  obtain ⟨p, l, e, R, s, m, args, below, meth, c⟩ := X
  obtain ⟨hx, hb, hr, hml, hown, hts, -⟩ := C
  intro H locs la hw hS hl
  exact lv_lconst (v := lI 0) hx hb hd (by decide +kernel) (kk H locs la hw hS hl)
theorem q_iload_n (C : qCx X ω own cc nL ret T fr mc) {j : Fin 4} (i : Nat) {x : Int32} (hd : decode cc pc = .ok (.iload_n j, 1)) (hi : (j : Nat) = i) (hk : lkp ls i = some (.int x)) (kk : qT X ω nL k Q g (pc + 1) ls (.int x :: st)) : qT X ω nL k Q g pc ls st := by
  obtain ⟨p, l, e, R, s, m, args, below, meth, c⟩ := X
  obtain ⟨hx, hb, hr, hml, hown, hts, -⟩ := C
  intro H locs la hw hS hl
  exact lv_iload_n hx hb hd hi (lkp_at hl hk) (kk H locs la hw hS hl)
theorem q_iload (C : qCx X ω own cc nL ret T fr mc) {i : Nat} {x : Int32} (hd : decode cc pc = .ok (.iload i, 2)) (hk : lkp ls i = some (.int x)) (kk : qT X ω nL k Q g (pc + 2) ls (.int x :: st)) : qT X ω nL k Q g pc ls st := by
  obtain ⟨p, l, e, R, s, m, args, below, meth, c⟩ := X
  obtain ⟨hx, hb, hr, hml, hown, hts, -⟩ := C
  intro H locs la hw hS hl
  exact lv_iload hx hb hd (lkp_at hl hk) (kk H locs la hw hS hl)
theorem q_lload_n (C : qCx X ω own cc nL ret T fr mc) {j : Fin 4} (i : Nat) {x : Int64} (hd : decode cc pc = .ok (.lload_n j, 1)) (hi : (j : Nat) = i) (hk : lkp ls i = some (.long x)) (kk : qT X ω nL k Q g (pc + 1) ls (.long x :: st)) : qT X ω nL k Q g pc ls st := by
  obtain ⟨p, l, e, R, s, m, args, below, meth, c⟩ := X
  obtain ⟨hx, hb, hr, hml, hown, hts, -⟩ := C
  intro H locs la hw hS hl
  exact lv_lload_n hx hb hd hi (lkp_at hl hk) (kk H locs la hw hS hl)
theorem q_lload (C : qCx X ω own cc nL ret T fr mc) {i : Nat} {x : Int64} (hd : decode cc pc = .ok (.lload i, 2)) (hk : lkp ls i = some (.long x)) (kk : qT X ω nL k Q g (pc + 2) ls (.long x :: st)) : qT X ω nL k Q g pc ls st := by
  obtain ⟨p, l, e, R, s, m, args, below, meth, c⟩ := X
  obtain ⟨hx, hb, hr, hml, hown, hts, -⟩ := C
  intro H locs la hw hS hl
  exact lv_lload hx hb hd (lkp_at hl hk) (kk H locs la hw hS hl)
theorem q_aload_n (C : qCx X ω own cc nL ret T fr mc) {j : Fin 4} (i : Nat) {x : Nat} (hd : decode cc pc = .ok (.aload_n j, 1)) (hi : (j : Nat) = i) (hk : lkp ls i = some (.ref x)) (kk : qT X ω nL k Q g (pc + 1) ls (.ref x :: st)) : qT X ω nL k Q g pc ls st := by
  obtain ⟨p, l, e, R, s, m, args, below, meth, c⟩ := X
  obtain ⟨hx, hb, hr, hml, hown, hts, -⟩ := C
  intro H locs la hw hS hl
  exact lv_aload_n hx hb hd hi (lkp_at hl hk) (kk H locs la hw hS hl)
theorem q_aload (C : qCx X ω own cc nL ret T fr mc) {i : Nat} {x : Nat} (hd : decode cc pc = .ok (.aload i, 2)) (hk : lkp ls i = some (.ref x)) (kk : qT X ω nL k Q g (pc + 2) ls (.ref x :: st)) : qT X ω nL k Q g pc ls st := by
  obtain ⟨p, l, e, R, s, m, args, below, meth, c⟩ := X
  obtain ⟨hx, hb, hr, hml, hown, hts, -⟩ := C
  intro H locs la hw hS hl
  exact lv_aload hx hb hd (lkp_at hl hk) (kk H locs la hw hS hl)
theorem q_fload_n (C : qCx X ω own cc nL ret T fr mc) {j : Fin 4} (i : Nat) {x : UInt32} (hd : decode cc pc = .ok (.fload_n j, 1)) (hi : (j : Nat) = i) (hk : lkp ls i = some (.float x)) (kk : qT X ω nL k Q g (pc + 1) ls (.float x :: st)) : qT X ω nL k Q g pc ls st := by
  obtain ⟨p, l, e, R, s, m, args, below, meth, c⟩ := X
  obtain ⟨hx, hb, hr, hml, hown, hts, -⟩ := C
  intro H locs la hw hS hl
  exact lv_fload_n hx hb hd hi (lkp_at hl hk) (kk H locs la hw hS hl)
theorem q_fload (C : qCx X ω own cc nL ret T fr mc) {i : Nat} {x : UInt32} (hd : decode cc pc = .ok (.fload i, 2)) (hk : lkp ls i = some (.float x)) (kk : qT X ω nL k Q g (pc + 2) ls (.float x :: st)) : qT X ω nL k Q g pc ls st := by
  obtain ⟨p, l, e, R, s, m, args, below, meth, c⟩ := X
  obtain ⟨hx, hb, hr, hml, hown, hts, -⟩ := C
  intro H locs la hw hS hl
  exact lv_fload hx hb hd (lkp_at hl hk) (kk H locs la hw hS hl)
theorem q_istore_n (C : qCx X ω own cc nL ret T fr mc) {j : Fin 4} (i : Nat) {x : Int32} (hd : decode cc pc = .ok (.istore_n j, 1)) (hi : (j : Nat) = i) (hn : i < nL) (kk : qT X ω nL k Q g (pc + 1) (sto1 ls i (.int x)) st) : qT X ω nL k Q g pc ls (.int x :: st) := by
  obtain ⟨p, l, e, R, s, m, args, below, meth, c⟩ := X
  obtain ⟨hx, hb, hr, hml, hown, hts, -⟩ := C
  intro H locs la hw hS hl
  exact lv_istore_n hx hb hd hi hl hn rfl (fun la hl => kk H locs la hw hS hl)
theorem q_istore (C : qCx X ω own cc nL ret T fr mc) {i : Nat} {x : Int32} (hd : decode cc pc = .ok (.istore i, 2)) (hn : i < nL) (kk : qT X ω nL k Q g (pc + 2) (sto1 ls i (.int x)) st) : qT X ω nL k Q g pc ls (.int x :: st) := by
  obtain ⟨p, l, e, R, s, m, args, below, meth, c⟩ := X
  obtain ⟨hx, hb, hr, hml, hown, hts, -⟩ := C
  intro H locs la hw hS hl
  exact lv_istore hx hb hd hl hn rfl (fun la hl => kk H locs la hw hS hl)
theorem q_lstore_n (C : qCx X ω own cc nL ret T fr mc) {j : Fin 4} (i : Nat) {x : Int64} (hd : decode cc pc = .ok (.lstore_n j, 1)) (hi : (j : Nat) = i) (hn : i + 1 < nL) (kk : qT X ω nL k Q g (pc + 1) (sto2 ls i (.long x)) st) : qT X ω nL k Q g pc ls (.long x :: st) := by
  obtain ⟨p, l, e, R, s, m, args, below, meth, c⟩ := X
  obtain ⟨hx, hb, hr, hml, hown, hts, -⟩ := C
  intro H locs la hw hS hl
  exact lv_lstore_n hx hb hd hi hl hn rfl (fun la hl => kk H locs la hw hS hl)
theorem q_lstore (C : qCx X ω own cc nL ret T fr mc) {i : Nat} {x : Int64} (hd : decode cc pc = .ok (.lstore i, 2)) (hn : i + 1 < nL) (kk : qT X ω nL k Q g (pc + 2) (sto2 ls i (.long x)) st) : qT X ω nL k Q g pc ls (.long x :: st) := by
  obtain ⟨p, l, e, R, s, m, args, below, meth, c⟩ := X
  obtain ⟨hx, hb, hr, hml, hown, hts, -⟩ := C
  intro H locs la hw hS hl
  exact lv_lstore hx hb hd hl hn rfl (fun la hl => kk H locs la hw hS hl)
theorem q_astore_n (C : qCx X ω own cc nL ret T fr mc) {j : Fin 4} (i : Nat) {x : Nat} (hd : decode cc pc = .ok (.astore_n j, 1)) (hi : (j : Nat) = i) (hn : i < nL) (kk : qT X ω nL k Q g (pc + 1) (sto1 ls i (.ref x)) st) : qT X ω nL k Q g pc ls (.ref x :: st) := by
  obtain ⟨p, l, e, R, s, m, args, below, meth, c⟩ := X
  obtain ⟨hx, hb, hr, hml, hown, hts, -⟩ := C
  intro H locs la hw hS hl
  exact lv_astore_n hx hb hd hi hl hn rfl (fun la hl => kk H locs la hw hS hl)
theorem q_astore (C : qCx X ω own cc nL ret T fr mc) {i : Nat} {x : Nat} (hd : decode cc pc = .ok (.astore i, 2)) (hn : i < nL) (kk : qT X ω nL k Q g (pc + 2) (sto1 ls i (.ref x)) st) : qT X ω nL k Q g pc ls (.ref x :: st) := by
  obtain ⟨p, l, e, R, s, m, args, below, meth, c⟩ := X
  obtain ⟨hx, hb, hr, hml, hown, hts, -⟩ := C
  intro H locs la hw hS hl
  exact lv_astore hx hb hd hl hn rfl (fun la hl => kk H locs la hw hS hl)
theorem q_fstore_n (C : qCx X ω own cc nL ret T fr mc) {j : Fin 4} (i : Nat) {x : UInt32} (hd : decode cc pc = .ok (.fstore_n j, 1)) (hi : (j : Nat) = i) (hn : i < nL) (kk : qT X ω nL k Q g (pc + 1) (sto1 ls i (.float x)) st) : qT X ω nL k Q g pc ls (.float x :: st) := by
  obtain ⟨p, l, e, R, s, m, args, below, meth, c⟩ := X
  obtain ⟨hx, hb, hr, hml, hown, hts, -⟩ := C
  intro H locs la hw hS hl
  exact lv_fstore_n hx hb hd hi hl hn rfl (fun la hl => kk H locs la hw hS hl)
theorem q_fstore (C : qCx X ω own cc nL ret T fr mc) {i : Nat} {x : UInt32} (hd : decode cc pc = .ok (.fstore i, 2)) (hn : i < nL) (kk : qT X ω nL k Q g (pc + 2) (sto1 ls i (.float x)) st) : qT X ω nL k Q g pc ls (.float x :: st) := by
  obtain ⟨p, l, e, R, s, m, args, below, meth, c⟩ := X
  obtain ⟨hx, hb, hr, hml, hown, hts, -⟩ := C
  intro H locs la hw hS hl
  exact lv_fstore hx hb hd hl hn rfl (fun la hl => kk H locs la hw hS hl)
theorem q_istoreV_n (C : qCx X ω own cc nL ret T fr mc) {j : Fin 4} (i : Nat) {a : Int} (hd : decode cc pc = .ok (.istore_n j, 1)) (hi : (j : Nat) = i) (hn : i < nL) (kk : ∀ v : Int, v = a → qT X ω nL k Q g (pc + 1) (sto1 ls i (.int (iI v))) st) : qT X ω nL k Q g pc ls (.int (iI a) :: st) := q_istore_n C i hd hi hn (kk a rfl)
theorem q_istoreV (C : qCx X ω own cc nL ret T fr mc) {i : Nat} {a : Int} (hd : decode cc pc = .ok (.istore i, 2))  (hn : i < nL) (kk : ∀ v : Int, v = a → qT X ω nL k Q g (pc + 2) (sto1 ls i (.int (iI v))) st) : qT X ω nL k Q g pc ls (.int (iI a) :: st) := q_istore C hd hn (kk a rfl)
theorem q_iinc (C : qCx X ω own cc nL ret T fr mc) {i : Nat} {n : Int} {a : Int} (hd : decode cc pc = .ok (.iinc i n, 3)) (hk : lkp ls i = some (.int (iI a))) (hn : i < nL) (kk : ∀ v : Int, v = a + n → qT X ω nL k Q g (pc + 3) (sto1 ls i (.int (iI v))) st) : qT X ω nL k Q g pc ls st := by
  obtain ⟨p, l, e, R, s, m, args, below, meth, c⟩ := X
  obtain ⟨hx, hb, -⟩ := C
  intro H locs la hw hS hl
  have h0 : lv_has la nL ((i, .int (iI a)) :: ls) := ⟨hl.1, hl.2.1, fun q hq => by
    rcases List.mem_cons.mp hq with rfl | hq
    · exact lkp_at hl hk
    · exact hl.2.2 q hq⟩
  refine lv_iinc (k := 0) (v := iI (a + n)) hx hb hd h0 rfl (iI_add a n) hn rfl (fun la hl => ?_)
  have h1 : lv_has la nL (sto1 ls i (.int (iI (a + n)))) := ⟨hl.1, hl.2.1, fun q hq => hl.2.2 q (by
    unfold sto1 at hq
    rcases List.mem_cons.mp hq with rfl | hq
    · exact List.mem_cons_self
    · refine List.mem_cons_of_mem _ ?_
      rw [List.mem_filter] at hq ⊢
      exact ⟨List.mem_cons_of_mem _ hq.1, hq.2⟩)⟩
  exact kk (a + n) rfl H locs la hw hS h1
theorem q_iadd (C : qCx X ω own cc nL ret T fr mc) {a b : Int} (hd : decode cc pc = .ok (.iadd, 1)) (kk : qT X ω nL k Q g (pc + 1) ls (.int (iI (a + b)) :: st)) : qT X ω nL k Q g pc ls (.int (iI b) :: .int (iI a) :: st) := by
  obtain ⟨p, l, e, R, s, m, args, below, meth, c⟩ := X
  obtain ⟨hx, hb, hr, hml, hown, hts, -⟩ := C
  intro H locs la hw hS hl
  exact lv_iadd hx hb hd (by rw [iI_add]; exact kk H locs la hw hS hl)
theorem q_isub (C : qCx X ω own cc nL ret T fr mc) {a b : Int} (hd : decode cc pc = .ok (.isub, 1)) (kk : qT X ω nL k Q g (pc + 1) ls (.int (iI (a - b)) :: st)) : qT X ω nL k Q g pc ls (.int (iI b) :: .int (iI a) :: st) := by
  obtain ⟨p, l, e, R, s, m, args, below, meth, c⟩ := X
  obtain ⟨hx, hb, hr, hml, hown, hts, -⟩ := C
  intro H locs la hw hS hl
  exact lv_isub hx hb hd (by rw [iI_sub]; exact kk H locs la hw hS hl)
theorem q_imul (C : qCx X ω own cc nL ret T fr mc) {a b : Int} (hd : decode cc pc = .ok (.imul, 1)) (kk : qT X ω nL k Q g (pc + 1) ls (.int (iI (a * b)) :: st)) : qT X ω nL k Q g pc ls (.int (iI b) :: .int (iI a) :: st) := by
  obtain ⟨p, l, e, R, s, m, args, below, meth, c⟩ := X
  obtain ⟨hx, hb, hr, hml, hown, hts, -⟩ := C
  intro H locs la hw hS hl
  exact lv_imul hx hb hd (by rw [iI_mul]; exact kk H locs la hw hS hl)
theorem q_ladd (C : qCx X ω own cc nL ret T fr mc) {a b : Int} (hd : decode cc pc = .ok (.ladd, 1)) (kk : qT X ω nL k Q g (pc + 1) ls (.long (lI (a + b)) :: st)) : qT X ω nL k Q g pc ls (.long (lI b) :: .long (lI a) :: st) := by
  obtain ⟨p, l, e, R, s, m, args, below, meth, c⟩ := X
  obtain ⟨hx, hb, hr, hml, hown, hts, -⟩ := C
  intro H locs la hw hS hl
  exact lv_ladd hx hb hd (by rw [lI_add]; exact kk H locs la hw hS hl)
theorem q_lsub (C : qCx X ω own cc nL ret T fr mc) {a b : Int} (hd : decode cc pc = .ok (.lsub, 1)) (kk : qT X ω nL k Q g (pc + 1) ls (.long (lI (a - b)) :: st)) : qT X ω nL k Q g pc ls (.long (lI b) :: .long (lI a) :: st) := by
  obtain ⟨p, l, e, R, s, m, args, below, meth, c⟩ := X
  obtain ⟨hx, hb, hr, hml, hown, hts, -⟩ := C
  intro H locs la hw hS hl
  exact lv_lsub hx hb hd (by rw [lI_sub]; exact kk H locs la hw hS hl)
theorem iI_div {a b : Int} (ha : 0 ≤ a ∧ a < 2147483648) (hb : 0 < b ∧ b < 2147483648) : iI a / iI b = iI (a / b) := by
  have h := Int32.ofInt_tdiv (a := a) (b := b) (by show (-2147483648 : Int) ≤ a; omega) (by show a ≤ (2147483647 : Int); omega) (by show (-2147483648 : Int) ≤ b; omega) (by show b ≤ (2147483647 : Int); omega)
  rw [Int.tdiv_eq_ediv_of_nonneg ha.1] at h
  exact h.symm
theorem iI_rem {a b : Int} (ha : 0 ≤ a ∧ a < 2147483648) (hb : 0 < b ∧ b < 2147483648) : iI a - iI a / iI b * iI b = iI (a % b) := by
  rw [iI_div ha hb, iI_mul, iI_sub]
  congr 1
  have := Int.mul_ediv_add_emod a b
  rw [Int.mul_comm (a / b) b]
  omega
theorem iI_ne0 {b : Int} (hb : 0 < b ∧ b < 2147483648) : ¬ iI b = 0 := by
  rw [iI_0, iI_eq (by omega) (by omega)]
  omega
theorem q_idiv (C : qCx X ω own cc nL ret T fr mc) {a b : Int} (hd : decode cc pc = .ok (.idiv, 1)) (ha : 0 ≤ a ∧ a < 2147483648) (hb0 : 0 < b ∧ b < 2147483648) (kk : qT X ω nL k Q g (pc + 1) ls (.int (iI (a / b)) :: st)) : qT X ω nL k Q g pc ls (.int (iI b) :: .int (iI a) :: st) := by
  obtain ⟨p, l, e, R, s, m, args, below, meth, c⟩ := X
  obtain ⟨hx, hb, hr, hml, hown, hts, -⟩ := C
  intro H locs la hw hS hl
  exact lv_idiv hx hb hd (iI_ne0 hb0) (by rw [iI_div ha hb0]; exact kk H locs la hw hS hl)
theorem q_irem (C : qCx X ω own cc nL ret T fr mc) {a b : Int} (hd : decode cc pc = .ok (.irem, 1)) (ha : 0 ≤ a ∧ a < 2147483648) (hb0 : 0 < b ∧ b < 2147483648) (kk : qT X ω nL k Q g (pc + 1) ls (.int (iI (a % b)) :: st)) : qT X ω nL k Q g pc ls (.int (iI b) :: .int (iI a) :: st) := by
  obtain ⟨p, l, e, R, s, m, args, below, meth, c⟩ := X
  obtain ⟨hx, hb, hr, hml, hown, hts, -⟩ := C
  intro H locs la hw hS hl
  exact lv_irem hx hb hd (iI_ne0 hb0) (by rw [iI_rem ha hb0]; exact kk H locs la hw hS hl)
theorem q_iand (C : qCx X ω own cc nL ret T fr mc) {x y : Int32} (hd : decode cc pc = .ok (.iand, 1)) (v : Int32) (hv : x &&& y = v) (kk : qT X ω nL k Q g (pc + 1) ls (.int v :: st)) : qT X ω nL k Q g pc ls (.int y :: .int x :: st) := by
  obtain ⟨p, l, e, R, s, m, args, below, meth, c⟩ := X
  obtain ⟨hx, hb, hr, hml, hown, hts, -⟩ := C
  intro H locs la hw hS hl
  subst hv
  exact lv_iand hx hb hd (kk H locs la hw hS hl)
theorem q_ishr (C : qCx X ω own cc nL ret T fr mc) {x y : Int32} (hd : decode cc pc = .ok (.ishr, 1)) (v : Int32) (hv : x >>> (y &&& 31) = v) (kk : qT X ω nL k Q g (pc + 1) ls (.int v :: st)) : qT X ω nL k Q g pc ls (.int y :: .int x :: st) := by
  obtain ⟨p, l, e, R, s, m, args, below, meth, c⟩ := X
  obtain ⟨hx, hb, hr, hml, hown, hts, -⟩ := C
  intro H locs la hw hS hl
  subst hv
  exact lv_ishr hx hb hd (kk H locs la hw hS hl)
theorem q_lor (C : qCx X ω own cc nL ret T fr mc) {x y : Int64} (hd : decode cc pc = .ok (.lor, 1)) (v : Int64) (hv : x ||| y = v) (kk : qT X ω nL k Q g (pc + 1) ls (.long v :: st)) : qT X ω nL k Q g pc ls (.long y :: .long x :: st) := by
  obtain ⟨p, l, e, R, s, m, args, below, meth, c⟩ := X
  obtain ⟨hx, hb, hr, hml, hown, hts, -⟩ := C
  intro H locs la hw hS hl
  subst hv
  exact lv_lor hx hb hd (kk H locs la hw hS hl)
theorem q_lshl (C : qCx X ω own cc nL ret T fr mc) {x : Int64} {y : Int32} (hd : decode cc pc = .ok (.lshl, 1)) (v : Int64) (hv : x <<< (y.toInt64 &&& 63) = v) (kk : qT X ω nL k Q g (pc + 1) ls (.long v :: st)) : qT X ω nL k Q g pc ls (.int y :: .long x :: st) := by
  obtain ⟨p, l, e, R, s, m, args, below, meth, c⟩ := X
  obtain ⟨hx, hb, hr, hml, hown, hts, -⟩ := C
  intro H locs la hw hS hl
  exact lv_lshl hx hb hd hv (kk H locs la hw hS hl)
theorem q_lshr (C : qCx X ω own cc nL ret T fr mc) {x : Int64} {y : Int32} (hd : decode cc pc = .ok (.lshr, 1)) (v : Int64) (hv : x >>> (y.toInt64 &&& 63) = v) (kk : qT X ω nL k Q g (pc + 1) ls (.long v :: st)) : qT X ω nL k Q g pc ls (.int y :: .long x :: st) := by
  obtain ⟨p, l, e, R, s, m, args, below, meth, c⟩ := X
  obtain ⟨hx, hb, hr, hml, hown, hts, -⟩ := C
  intro H locs la hw hS hl
  exact lv_lshr hx hb hd hv (kk H locs la hw hS hl)
theorem q_i2l (C : qCx X ω own cc nL ret T fr mc) {a : Int} (hd : decode cc pc = .ok (.i2l, 1)) (ha : -2147483648 ≤ a ∧ a < 2147483648) (kk : qT X ω nL k Q g (pc + 1) ls (.long (lI a) :: st)) : qT X ω nL k Q g pc ls (.int (iI a) :: st) := by
  obtain ⟨p, l, e, R, s, m, args, below, meth, c⟩ := X
  obtain ⟨hx, hb, hr, hml, hown, hts, -⟩ := C
  intro H locs la hw hS hl
  exact lv_i2l hx hb hd (iI_l ha) (kk H locs la hw hS hl)
theorem q_l2i (C : qCx X ω own cc nL ret T fr mc) {a : Int} (hd : decode cc pc = .ok (.l2i, 1)) (kk : qT X ω nL k Q g (pc + 1) ls (.int (iI a) :: st)) : qT X ω nL k Q g pc ls (.long (lI a) :: st) := by
  obtain ⟨p, l, e, R, s, m, args, below, meth, c⟩ := X
  obtain ⟨hx, hb, hr, hml, hown, hts, -⟩ := C
  intro H locs la hw hS hl
  exact lv_l2i hx hb hd (lI_i a) (kk H locs la hw hS hl)
theorem q_i2c (C : qCx X ω own cc nL ret T fr mc) {x : Int32} (hd : decode cc pc = .ok (.i2c, 1)) (v : Int32) (hv : (x.toUInt32 % 65536).toInt32 = v) (kk : qT X ω nL k Q g (pc + 1) ls (.int v :: st)) : qT X ω nL k Q g pc ls (.int x :: st) := by
  obtain ⟨p, l, e, R, s, m, args, below, meth, c⟩ := X
  obtain ⟨hx, hb, hr, hml, hown, hts, -⟩ := C
  intro H locs la hw hS hl
  exact lv_i2c hx hb hd hv (kk H locs la hw hS hl)
theorem q_i2f (C : qCx X ω own cc nL ret T fr mc) {x : Int32} (hd : decode cc pc = .ok (.i2f, 1)) (kk : qT X ω nL k Q g (pc + 1) ls (.float (FP.i2f x) :: st)) : qT X ω nL k Q g pc ls (.int x :: st) := by
  obtain ⟨p, l, e, R, s, m, args, below, meth, c⟩ := X
  obtain ⟨hx, hb, hr, hml, hown, hts, -⟩ := C
  intro H locs la hw hS hl
  exact lv_i2f hx hb hd (kk H locs la hw hS hl)
theorem q_fdiv (C : qCx X ω own cc nL ret T fr mc) {x y : UInt32} (hd : decode cc pc = .ok (.fdiv, 1)) (hne : vf_n32 (FP.fdiv x y)) (kk : qT X ω nL k Q g (pc + 1) ls (.float (FP.fdiv x y) :: st)) : qT X ω nL k Q g pc ls (.float y :: .float x :: st) := by
  obtain ⟨p, l, e, R, s, m, args, below, meth, c⟩ := X
  obtain ⟨hx, hb, hr, hml, hown, hts, -⟩ := C
  intro H locs la hw hS hl
  exact lv_fdiv hx hb hd hne (kk H locs la hw hS hl)
theorem q_f2d (C : qCx X ω own cc nL ret T fr mc) {x : UInt32} (hd : decode cc pc = .ok (.f2d, 1)) (hne : vf_n64 (FP.f2d x)) (kk : qT X ω nL k Q g (pc + 1) ls (.double (FP.f2d x) :: st)) : qT X ω nL k Q g pc ls (.float x :: st) := by
  obtain ⟨p, l, e, R, s, m, args, below, meth, c⟩ := X
  obtain ⟨hx, hb, hr, hml, hown, hts, -⟩ := C
  intro H locs la hw hS hl
  exact lv_f2d hx hb hd hne (kk H locs la hw hS hl)
theorem q_fcmp (C : qCx X ω own cc nL ret T fr mc) {x y : UInt32} {op : CmpOp} (hd : decode cc pc = .ok (.fcmp op, 1)) (a : Int) (ha : Op.cmpValue (FP.fcmp x y) op = iI a) (kk : qT X ω nL k Q g (pc + 1) ls (.int (iI a) :: st)) : qT X ω nL k Q g pc ls (.float y :: .float x :: st) := by
  obtain ⟨p, l, e, R, s, m, args, below, meth, c⟩ := X
  obtain ⟨hx, hb, hr, hml, hown, hts, -⟩ := C
  intro H locs la hw hS hl
  exact lv_fcmp hx hb hd (by rw [ha]; exact kk H locs la hw hS hl)
theorem q_dcmp (C : qCx X ω own cc nL ret T fr mc) {x y : UInt64} {op : CmpOp} (hd : decode cc pc = .ok (.dcmp op, 1)) (a : Int) (ha : Op.cmpValue (FP.dcmp x y) op = iI a) (kk : qT X ω nL k Q g (pc + 1) ls (.int (iI a) :: st)) : qT X ω nL k Q g pc ls (.double y :: .double x :: st) := by
  obtain ⟨p, l, e, R, s, m, args, below, meth, c⟩ := X
  obtain ⟨hx, hb, hr, hml, hown, hts, -⟩ := C
  intro H locs la hw hS hl
  exact lv_dcmp hx hb hd (by rw [ha]; exact kk H locs la hw hS hl)
theorem q_fconst0 (C : qCx X ω own cc nL ret T fr mc)  (hd : decode cc pc = .ok (.fconst 0, 1)) (kk : qT X ω nL k Q g (pc + 1) ls (.float 0 :: st)) : qT X ω nL k Q g pc ls st := by
  obtain ⟨p, l, e, R, s, m, args, below, meth, c⟩ := X
  obtain ⟨hx, hb, hr, hml, hown, hts, -⟩ := C
  intro H locs la hw hS hl
  exact lv_fconst0 hx hb hd (kk H locs la hw hS hl)
def qCmp (a b : Int) : Int := if b < a then 1 else if a = b then 0 else -1
theorem lg_cmp_lI {a b : Int} (ha : -9223372036854775808 ≤ a ∧ a < 9223372036854775808) (hb : -9223372036854775808 ≤ b ∧ b < 9223372036854775808) : lg_cmp (lI a) (lI b) = iI (qCmp a b) := by
  have h1 : (lI b < lI a) ↔ b < a := by rw [Int64.lt_iff_toInt_lt, lI_t ha, lI_t hb]
  have h2 : (lI a = lI b) ↔ a = b := by rw [← Int64.toInt_inj, lI_t ha, lI_t hb]
  unfold lg_cmp qCmp
  simp only [h1, h2]
  split
  · rfl
  · split <;> rfl
theorem q_lcmp (C : qCx X ω own cc nL ret T fr mc) {a b : Int} (hd : decode cc pc = .ok (.lcmp, 1)) (ha : -9223372036854775808 ≤ a ∧ a < 9223372036854775808) (hb0 : -9223372036854775808 ≤ b ∧ b < 9223372036854775808) (kk : qT X ω nL k Q g (pc + 1) ls (.int (iI (qCmp a b)) :: st)) : qT X ω nL k Q g pc ls (.long (lI b) :: .long (lI a) :: st) := by
  obtain ⟨p, l, e, R, s, m, args, below, meth, c⟩ := X
  obtain ⟨hx, hb, hr, hml, hown, hts, -⟩ := C
  intro H locs la hw hS hl
  exact W.lcmp hx hb hd (by rw [lg_cmp_lI ha hb0]; exact kk H locs la hw hS hl)
theorem q_dup (C : qCx X ω own cc nL ret T fr mc) {v : Value} (hd : decode cc pc = .ok (.dup, 1)) (hv : v.category = 1) (kk : qT X ω nL k Q g (pc + 1) ls (v :: v :: st)) : qT X ω nL k Q g pc ls (v :: st) := by
  obtain ⟨p, l, e, R, s, m, args, below, meth, c⟩ := X
  obtain ⟨hx, hb, hr, hml, hown, hts, -⟩ := C
  intro H locs la hw hS hl
  exact lv_dup hx hb hd hv (kk H locs la hw hS hl)
theorem q_dup2 (C : qCx X ω own cc nL ret T fr mc) {v w : Value} (hd : decode cc pc = .ok (.dup2, 1)) (hv : v.category = 1) (hw0 : w.category = 1) (kk : qT X ω nL k Q g (pc + 1) ls (v :: w :: v :: w :: st)) : qT X ω nL k Q g pc ls (v :: w :: st) := by
  obtain ⟨p, l, e, R, s, m, args, below, meth, c⟩ := X
  obtain ⟨hx, hb, hr, hml, hown, hts, -⟩ := C
  intro H locs la hw hS hl
  exact lv_dup2_11 hx hb hd hv hw0 (kk H locs la hw hS hl)
theorem q_ifeq (C : qCx X ω own cc nL ret T fr mc) {a : Int} {off : Int} (tgt : Nat) (hd : decode cc pc = .ok (.ifCond .eq off, 3)) (ht : (pc : Int) + off = (tgt : Int)) (ha : -2147483648 ≤ a ∧ a < 2147483648) (kt : a = 0 → qT X ω nL k Q g tgt ls st) (kf : ¬ a = 0 → qT X ω nL k Q g (pc + 3) ls st) : qT X ω nL k Q g pc ls (.int (iI a) :: st) := by
  obtain ⟨p, l, e, R, s, m, args, below, meth, c⟩ := X
  obtain ⟨hx, hb, -⟩ := C
  intro H locs la hw hS hl
  exact lv_if_eq hx hb hd ht (fun h => kt ((iI_eq ha (by decide : -2147483648 ≤ (0 : Int) ∧ (0 : Int) < 2147483648)).mp (iI_0 ▸ h)) H locs la hw hS hl) (fun h => kf (fun q => h (by rw [iI_0]; exact (iI_eq ha (by decide : -2147483648 ≤ (0 : Int) ∧ (0 : Int) < 2147483648)).mpr q)) H locs la hw hS hl)
theorem q_ifne (C : qCx X ω own cc nL ret T fr mc) {a : Int} {off : Int} (tgt : Nat) (hd : decode cc pc = .ok (.ifCond .ne off, 3)) (ht : (pc : Int) + off = (tgt : Int)) (ha : -2147483648 ≤ a ∧ a < 2147483648) (kt : ¬ a = 0 → qT X ω nL k Q g tgt ls st) (kf : a = 0 → qT X ω nL k Q g (pc + 3) ls st) : qT X ω nL k Q g pc ls (.int (iI a) :: st) := by
  obtain ⟨p, l, e, R, s, m, args, below, meth, c⟩ := X
  obtain ⟨hx, hb, -⟩ := C
  intro H locs la hw hS hl
  exact lv_if_ne hx hb hd ht (fun h => kt (fun q => h (by rw [iI_0]; exact (iI_eq ha (by decide : -2147483648 ≤ (0 : Int) ∧ (0 : Int) < 2147483648)).mpr q)) H locs la hw hS hl) (fun h => kf ((iI_eq ha (by decide : -2147483648 ≤ (0 : Int) ∧ (0 : Int) < 2147483648)).mp (iI_0 ▸ h)) H locs la hw hS hl)
theorem q_iflt (C : qCx X ω own cc nL ret T fr mc) {a : Int} {off : Int} (tgt : Nat) (hd : decode cc pc = .ok (.ifCond .lt off, 3)) (ht : (pc : Int) + off = (tgt : Int)) (ha : -2147483648 ≤ a ∧ a < 2147483648) (kt : a < 0 → qT X ω nL k Q g tgt ls st) (kf : 0 ≤ a → qT X ω nL k Q g (pc + 3) ls st) : qT X ω nL k Q g pc ls (.int (iI a) :: st) := by
  obtain ⟨p, l, e, R, s, m, args, below, meth, c⟩ := X
  obtain ⟨hx, hb, -⟩ := C
  intro H locs la hw hS hl
  exact lv_if_lt hx hb hd ht (fun h => kt ((iI_lt ha (by decide : -2147483648 ≤ (0 : Int) ∧ (0 : Int) < 2147483648)).mp (iI_0 ▸ h)) H locs la hw hS hl) (fun h => kf (by have h2 := mt (iI_lt ha (by decide : -2147483648 ≤ (0 : Int) ∧ (0 : Int) < 2147483648)).mpr (iI_0 ▸ h); omega) H locs la hw hS hl)
theorem q_ifge (C : qCx X ω own cc nL ret T fr mc) {a : Int} {off : Int} (tgt : Nat) (hd : decode cc pc = .ok (.ifCond .ge off, 3)) (ht : (pc : Int) + off = (tgt : Int)) (ha : -2147483648 ≤ a ∧ a < 2147483648) (kt : 0 ≤ a → qT X ω nL k Q g tgt ls st) (kf : a < 0 → qT X ω nL k Q g (pc + 3) ls st) : qT X ω nL k Q g pc ls (.int (iI a) :: st) := by
  obtain ⟨p, l, e, R, s, m, args, below, meth, c⟩ := X
  obtain ⟨hx, hb, -⟩ := C
  intro H locs la hw hS hl
  exact lv_if_ge hx hb hd ht (fun h => kt ((iI_le (by decide : -2147483648 ≤ (0 : Int) ∧ (0 : Int) < 2147483648) ha).mp (iI_0 ▸ h)) H locs la hw hS hl) (fun h => kf (by have h2 := mt (iI_le (by decide : -2147483648 ≤ (0 : Int) ∧ (0 : Int) < 2147483648) ha).mpr (iI_0 ▸ h); omega) H locs la hw hS hl)
theorem q_ifle (C : qCx X ω own cc nL ret T fr mc) {a : Int} {off : Int} (tgt : Nat) (hd : decode cc pc = .ok (.ifCond .le off, 3)) (ht : (pc : Int) + off = (tgt : Int)) (ha : -2147483648 ≤ a ∧ a < 2147483648) (kt : a ≤ 0 → qT X ω nL k Q g tgt ls st) (kf : 0 < a → qT X ω nL k Q g (pc + 3) ls st) : qT X ω nL k Q g pc ls (.int (iI a) :: st) := by
  obtain ⟨p, l, e, R, s, m, args, below, meth, c⟩ := X
  obtain ⟨hx, hb, -⟩ := C
  intro H locs la hw hS hl
  exact lv_if_le hx hb hd ht (fun h => kt ((iI_le ha (by decide : -2147483648 ≤ (0 : Int) ∧ (0 : Int) < 2147483648)).mp (iI_0 ▸ h)) H locs la hw hS hl) (fun h => kf (by have h2 := mt (iI_le ha (by decide : -2147483648 ≤ (0 : Int) ∧ (0 : Int) < 2147483648)).mpr (iI_0 ▸ h); omega) H locs la hw hS hl)
theorem q_icmp_eq (C : qCx X ω own cc nL ret T fr mc) {a b : Int} {off : Int} (tgt : Nat) (hd : decode cc pc = .ok (.if_icmp .eq off, 3)) (ht : (pc : Int) + off = (tgt : Int)) (ha : -2147483648 ≤ a ∧ a < 2147483648) (hb0 : -2147483648 ≤ b ∧ b < 2147483648) (kt : a = b → qT X ω nL k Q g tgt ls st) (kf : ¬ a = b → qT X ω nL k Q g (pc + 3) ls st) : qT X ω nL k Q g pc ls (.int (iI b) :: .int (iI a) :: st) := by
  obtain ⟨p, l, e, R, s, m, args, below, meth, c⟩ := X
  obtain ⟨hx, hb, -⟩ := C
  intro H locs la hw hS hl
  exact lv_icmp_eq hx hb hd ht (fun h => kt ((iI_eq ha hb0).mp h) H locs la hw hS hl) (fun h => kf (fun q => h ((iI_eq ha hb0).mpr q)) H locs la hw hS hl)
theorem q_icmp_ne (C : qCx X ω own cc nL ret T fr mc) {a b : Int} {off : Int} (tgt : Nat) (hd : decode cc pc = .ok (.if_icmp .ne off, 3)) (ht : (pc : Int) + off = (tgt : Int)) (ha : -2147483648 ≤ a ∧ a < 2147483648) (hb0 : -2147483648 ≤ b ∧ b < 2147483648) (kt : ¬ a = b → qT X ω nL k Q g tgt ls st) (kf : a = b → qT X ω nL k Q g (pc + 3) ls st) : qT X ω nL k Q g pc ls (.int (iI b) :: .int (iI a) :: st) := by
  obtain ⟨p, l, e, R, s, m, args, below, meth, c⟩ := X
  obtain ⟨hx, hb, -⟩ := C
  intro H locs la hw hS hl
  exact lv_icmp_ne hx hb hd ht (fun h => kt (fun q => h ((iI_eq ha hb0).mpr q)) H locs la hw hS hl) (fun h => kf ((iI_eq ha hb0).mp h) H locs la hw hS hl)
theorem q_icmp_lt (C : qCx X ω own cc nL ret T fr mc) {a b : Int} {off : Int} (tgt : Nat) (hd : decode cc pc = .ok (.if_icmp .lt off, 3)) (ht : (pc : Int) + off = (tgt : Int)) (ha : -2147483648 ≤ a ∧ a < 2147483648) (hb0 : -2147483648 ≤ b ∧ b < 2147483648) (kt : a < b → qT X ω nL k Q g tgt ls st) (kf : b ≤ a → qT X ω nL k Q g (pc + 3) ls st) : qT X ω nL k Q g pc ls (.int (iI b) :: .int (iI a) :: st) := by
  obtain ⟨p, l, e, R, s, m, args, below, meth, c⟩ := X
  obtain ⟨hx, hb, -⟩ := C
  intro H locs la hw hS hl
  exact lv_icmp_lt hx hb hd ht (fun h => kt ((iI_lt ha hb0).mp h) H locs la hw hS hl) (fun h => kf (by have h2 := mt (iI_lt ha hb0).mpr h; omega) H locs la hw hS hl)
theorem q_icmp_ge (C : qCx X ω own cc nL ret T fr mc) {a b : Int} {off : Int} (tgt : Nat) (hd : decode cc pc = .ok (.if_icmp .ge off, 3)) (ht : (pc : Int) + off = (tgt : Int)) (ha : -2147483648 ≤ a ∧ a < 2147483648) (hb0 : -2147483648 ≤ b ∧ b < 2147483648) (kt : b ≤ a → qT X ω nL k Q g tgt ls st) (kf : a < b → qT X ω nL k Q g (pc + 3) ls st) : qT X ω nL k Q g pc ls (.int (iI b) :: .int (iI a) :: st) := by
  obtain ⟨p, l, e, R, s, m, args, below, meth, c⟩ := X
  obtain ⟨hx, hb, -⟩ := C
  intro H locs la hw hS hl
  exact lv_icmp_ge hx hb hd ht (fun h => kt ((iI_le hb0 ha).mp h) H locs la hw hS hl) (fun h => kf (by have h2 := mt (iI_le hb0 ha).mpr h; omega) H locs la hw hS hl)
theorem q_icmp_gt (C : qCx X ω own cc nL ret T fr mc) {a b : Int} {off : Int} (tgt : Nat) (hd : decode cc pc = .ok (.if_icmp .gt off, 3)) (ht : (pc : Int) + off = (tgt : Int)) (ha : -2147483648 ≤ a ∧ a < 2147483648) (hb0 : -2147483648 ≤ b ∧ b < 2147483648) (kt : b < a → qT X ω nL k Q g tgt ls st) (kf : a ≤ b → qT X ω nL k Q g (pc + 3) ls st) : qT X ω nL k Q g pc ls (.int (iI b) :: .int (iI a) :: st) := by
  obtain ⟨p, l, e, R, s, m, args, below, meth, c⟩ := X
  obtain ⟨hx, hb, -⟩ := C
  intro H locs la hw hS hl
  exact lv_icmp_gt hx hb hd ht (fun h => kt ((iI_lt hb0 ha).mp h) H locs la hw hS hl) (fun h => kf (by have h2 := mt (iI_lt hb0 ha).mpr h; omega) H locs la hw hS hl)
theorem q_icmp_le (C : qCx X ω own cc nL ret T fr mc) {a b : Int} {off : Int} (tgt : Nat) (hd : decode cc pc = .ok (.if_icmp .le off, 3)) (ht : (pc : Int) + off = (tgt : Int)) (ha : -2147483648 ≤ a ∧ a < 2147483648) (hb0 : -2147483648 ≤ b ∧ b < 2147483648) (kt : a ≤ b → qT X ω nL k Q g tgt ls st) (kf : b < a → qT X ω nL k Q g (pc + 3) ls st) : qT X ω nL k Q g pc ls (.int (iI b) :: .int (iI a) :: st) := by
  obtain ⟨p, l, e, R, s, m, args, below, meth, c⟩ := X
  obtain ⟨hx, hb, -⟩ := C
  intro H locs la hw hS hl
  exact lv_icmp_le hx hb hd ht (fun h => kt ((iI_le ha hb0).mp h) H locs la hw hS hl) (fun h => kf (by have h2 := mt (iI_le ha hb0).mpr h; omega) H locs la hw hS hl)
theorem q_goto (C : qCx X ω own cc nL ret T fr mc) {off : Int} (tgt : Nat) (hd : decode cc pc = .ok (.goto off, 3)) (ht : (pc : Int) + off = (tgt : Int)) (kk : qT X ω nL k Q g tgt ls st) : qT X ω nL k Q g pc ls st := by
  obtain ⟨p, l, e, R, s, m, args, below, meth, c⟩ := X
  obtain ⟨hx, hb, -⟩ := C
  intro H locs la hw hS hl
  exact lv_goto hx hb hd ht (kk H locs la hw hS hl)
theorem q_tableIn (C : qCx X ω own cc nL ret T fr mc) {a dflt lo hi off : Int} {offs : Array Int} {len : Nat} (tgt : Nat) (hd : decode cc pc = .ok (.tableswitch dflt lo hi offs, len)) (ha : -2147483648 ≤ a ∧ a < 2147483648) (h1 : lo ≤ a) (h2 : a ≤ hi) (ho : offs[(a - lo).toNat]? = some off) (ht : (pc : Int) + off = (tgt : Int)) (kk : qT X ω nL k Q g tgt ls st) : qT X ω nL k Q g pc ls (.int (iI a) :: st) := by
  obtain ⟨p, l, e, R, s, m, args, below, meth, c⟩ := X
  obtain ⟨hx, hb, -⟩ := C
  intro H locs la hw hS hl
  exact lv_tableIn hx hb hd (by rw [iI_t ha]; omega) (by rw [iI_t ha]; omega) (by rw [iI_t ha]; exact ho) ht (kk H locs la hw hS hl)
theorem q_tableOut (C : qCx X ω own cc nL ret T fr mc) {a dflt lo hi : Int} {offs : Array Int} {len : Nat} (tgt : Nat) (hd : decode cc pc = .ok (.tableswitch dflt lo hi offs, len)) (ha : -2147483648 ≤ a ∧ a < 2147483648) (h1 : a < lo ∨ hi < a) (ht : (pc : Int) + dflt = (tgt : Int)) (kk : qT X ω nL k Q g tgt ls st) : qT X ω nL k Q g pc ls (.int (iI a) :: st) := by
  obtain ⟨p, l, e, R, s, m, args, below, meth, c⟩ := X
  obtain ⟨hx, hb, -⟩ := C
  intro H locs la hw hS hl
  exact lv_tableOut hx hb hd (by rw [iI_t ha]; exact h1) ht (kk H locs la hw hS hl)
/-- fewer locals, in any order -/
theorem q_loc (l' : List (Nat × Value)) (h : lsub ls l') (kk : qT X ω nL k Q g pc l' st) : qT X ω nL k Q g pc ls st := by
  obtain ⟨p, l, e, R, s, m, args, below, meth, c⟩ := X
  intro H locs la hw hS hl
  exact kk H locs la hw hS (lsub_has hl h)
/-- all numbers lie between their bounds -/
theorem q_nm (kk : qNm g → qT X ω nL k Q g pc ls st) : qT X ω nL k Q g pc ls st := by
  obtain ⟨p, l, e, R, s, m, args, below, meth, c⟩ := X
  intro H locs la hw hS hl
  exact kk hw.2.2 H locs la hw hS hl
theorem q_widen {k2 : Nat} (h : k ≤ k2) (kk : qT X ω nL k2 Q g pc ls st) : qT X ω nL k Q g pc ls st := by
  obtain ⟨p, l, e, R, s, m, args, below, meth, c⟩ := X
  intro H locs la hw hS hl
  exact W.widen h (Nat.mul_le_mul_left 6 h) (kk H locs la hw hS hl)
theorem q_hp {g2 : qHp} (h : g = g2) (kk : qT X ω nL k Q g2 pc ls st) : qT X ω nL k Q g pc ls st := h ▸ kk
theorem q_getf (C : qCx X ω own cc nL ret T fr mc) {b ci j N idx : Nat} {ds : List qFd} {d : qFd} {Cn : String} {TT : u_T} (hlay : qLay b = .inr (ci, ds)) (hb38 : b < 38) (hc : vwCl[ci]? = some (Cn, TT, N)) (hin : ∀ w ∈ u_ws Cn TT N, w ∈ qAW) (hj : j < N) (hlink : Cond.fieldLink own idx (TT j).1 (TT j).2.1 (TT j).2.2.1 ∈ qAW) (hds : ds[j]? = some d) (hd : decode cc pc = .ok (.getfield idx, 3)) (kk : qT X ω nL k Q g (pc + 3) ls (qFv ω.1 (g b) j d :: st)) : qT X ω nL k Q g pc ls (.ref (ω.1 b) :: st) := by
  obtain ⟨p, l, e, R, s, m, args, below, meth, c⟩ := X
  obtain ⟨hx, hb, hr, hml, hown, hts, -, -, -, hst, -⟩ := C
  intro H locs la hw hS hl
  have he : (qWs ω.1 ω.2.1 g)[b]? = some (ω.1 b, .inr (ci, qFs ω.1 (g b) 0 ds)) := by
    rw [qWs_get _ _ _ hb38]
    unfold qCe
    rw [hlay]
  have hv := qFs_get ω.1 (g b) ds 0 j d hds
  rw [Nat.zero_add] at hv
  exact va_get (C := Cn) (T := TT) (N := N) (ref := (TT j).1) hx hb hts hin hown hst.1 hw.1 b he hc j hj (hts _ hlink) (fun x h => h) hv hd (kk H locs la hw hS hl)
theorem q_putf (C : qCx X ω own cc nL ret T fr mc) {b ci j N idx : Nat} {ds : List qFd} {lg : Bool} {Cn : String} {TT : u_T} {ty0 : Nat → FieldType} {ty : FieldType} {v : Value} (w : Int) (hlay : qLay b = .inr (ci, ds)) (hb38 : b < 38) (hc : vwCl[ci]? = some (Cn, TT, N)) (hin : ∀ w ∈ u_ws Cn TT N, w ∈ qAW) (hty : ∀ k, k < N → parseFieldDescriptor (TT k).2.2.1 = some (ty0 k)) (hnm : ∀ a, a < N → ∀ b, b < N → a ≠ b → (TT a).2.1 ≠ (TT b).2.1) (hj : j < N) (hlink : Cond.fieldLink own idx (TT j).1 (TT j).2.1 (TT j).2.2.1 ∈ qAW) (hfin : (TT j).2.2.2 = false) (hde : parseFieldDescriptor (TT j).2.2.1 = some ty) (hnar : narrow ty v = v) (hfit : fits ty v = true) (hds : ds[j]? = some (.inr lg)) (hv : v = qFv ω.1 (fun _ => w) 0 (.inr lg)) (hrg : (qRng b j).1 ≤ w ∧ w ≤ (qRng b j).2) (hd : decode cc pc = .ok (.putfield idx, 3)) (kk : qT X ω nL k Q (qUp g b j w) (pc + 3) ls st) : qT X ω nL k Q g pc ls (v :: .ref (ω.1 b) :: st) := by
  obtain ⟨p, l, e, R, s, m, args, below, meth, c⟩ := X
  obtain ⟨hx, hb, hr, hml, hown, hts, -, -, -, hst, -⟩ := C
  intro H locs la hw hS hl
  have he : (qWs ω.1 ω.2.1 g)[b]? = some (ω.1 b, .inr (ci, qFs ω.1 (g b) 0 ds)) := by
    rw [qWs_get _ _ _ hb38]
    unfold qCe
    rw [hlay]
  have hjl : j < (qFs ω.1 (g b) 0 ds).length := by
    rw [qFs_len]
    exact (List.getElem?_eq_some_iff.mp hds).1
  have hset : (qWs ω.1 ω.2.1 g).set b (ω.1 b, .inr (ci, (qFs ω.1 (g b) 0 ds).set j v)) = qWs ω.1 ω.2.1 (qUp g b j w) := by
    rw [← qWs_set hb38]
    congr 2
    unfold qCe
    rw [hlay]
    congr 2
    have h := qFs_set ω.1 (g b) w ds 0 j lg hds
    rw [Nat.zero_add] at h
    have e1 : v = qFv ω.1 (fun i => if i = ((j : Nat) : Int) then w else g b i) j (.inr lg) := by
      rw [hv]
      cases lg <;> simp [qFv]
    have e2 : (fun i => if i = ((j : Nat) : Int) then w else g b i) = qUp g b j w b := by
      funext i
      simp [qUp]
    rw [e1, h, e2]
  refine va_put (C := Cn) (T := TT) (N := N) (ref := (TT j).1) hx hb hts hin ty0 hty hnm hown hst.1 hw.1 hw.2.1 hS b he hc j hj (hts _ hlink) (fun x h => h) hfin hde hnar hfit hjl hd (fun H1 locs1 hP1 hD1 hS1 => ?_)
  rw [hset] at hP1 hD1
  exact kk H1 locs1 la ⟨hP1, hD1, qUp_nm hw.2.2 hrg⟩ hS1 hl
theorem q_iald (C : qCx X ω own cc nL ret T fr mc) {b n : Nat} {a : Int} (lo hi : Int) (hlay : qLay b = .inl (0, n)) (hb38 : b < 38) (hn : n < 2147483648) (hi0 : 0 ≤ a ∧ a < n) (hrg : ∀ j, qRng b j = (lo, hi)) (hd : decode cc pc = .ok (.iaload, 1)) (kk : ∀ v : Int, v = g b a → lo ≤ v → v ≤ hi → qT X ω nL k Q g (pc + 1) ls (.int (iI v) :: st)) : qT X ω nL k Q g pc ls (.int (iI a) :: .ref (ω.1 b) :: st) := by
  obtain ⟨p, l, e, R, s, m, args, below, meth, c⟩ := X
  obtain ⟨hx, hb, hr, hml, hown, hts, -, -, -, hst, -⟩ := C
  intro H locs la hw hS hl
  have he : (qWs ω.1 ω.2.1 g)[b]? = some (ω.1 b, .inl (ω.2.1 0, qAr 0 n (g b))) := by
    rw [qWs_get _ _ _ hb38]
    unfold qCe
    rw [hlay]
  have hq := hw.2.2 b a
  rw [hrg a] at hq
  have ht : (((iI a).toNatClampNeg : Nat) : Int) = a := by rw [iI_cl ⟨hi0.1, by omega⟩]; omega
  refine va_iald hx hb hst.1 hw.1 b 0 he rfl (iI_in ⟨hi0.1, hi0.2⟩ hn) hd ?_
  rw [ht]
  exact kk (g b a) rfl hq.1 hq.2 H locs la hw hS hl
theorem q_cald (C : qCx X ω own cc nL ret T fr mc) {b n : Nat} {a : Int} (lo hi : Int) (hlay : qLay b = .inl (1, n)) (hb38 : b < 38) (hn : n < 2147483648) (hi0 : 0 ≤ a ∧ a < n) (hrg : ∀ j, qRng b j = (lo, hi)) (hd : decode cc pc = .ok (.caload, 1)) (kk : ∀ v : Int, v = g b a → lo ≤ v → v ≤ hi → qT X ω nL k Q g (pc + 1) ls (.int (iI v) :: st)) : qT X ω nL k Q g pc ls (.int (iI a) :: .ref (ω.1 b) :: st) := by
  obtain ⟨p, l, e, R, s, m, args, below, meth, c⟩ := X
  obtain ⟨hx, hb, hr, hml, hown, hts, -, -, -, hst, -⟩ := C
  intro H locs la hw hS hl
  have he : (qWs ω.1 ω.2.1 g)[b]? = some (ω.1 b, .inl (ω.2.1 1, qAr 1 n (g b))) := by
    rw [qWs_get _ _ _ hb38]
    unfold qCe
    rw [hlay]
  have hq := hw.2.2 b a
  rw [hrg a] at hq
  have ht : (((iI a).toNatClampNeg : Nat) : Int) = a := by rw [iI_cl ⟨hi0.1, by omega⟩]; omega
  refine va_cald hx hb hst.1 hw.1 b 1 he rfl (iI_in ⟨hi0.1, hi0.2⟩ hn) hd ?_
  rw [ht]
  exact kk (g b a) rfl hq.1 hq.2 H locs la hw hS hl
theorem q_zald (C : qCx X ω own cc nL ret T fr mc) {b n : Nat} {a : Int} (lo hi : Int) (hlay : qLay b = .inl (2, n)) (hb38 : b < 38) (hn : n < 2147483648) (hi0 : 0 ≤ a ∧ a < n) (hrg : ∀ j, qRng b j = (lo, hi)) (hd : decode cc pc = .ok (.baload, 1)) (kk : ∀ v : Int, v = g b a → lo ≤ v → v ≤ hi → qT X ω nL k Q g (pc + 1) ls (.int (iI v) :: st)) : qT X ω nL k Q g pc ls (.int (iI a) :: .ref (ω.1 b) :: st) := by
  obtain ⟨p, l, e, R, s, m, args, below, meth, c⟩ := X
  obtain ⟨hx, hb, hr, hml, hown, hts, -, -, -, hst, -⟩ := C
  intro H locs la hw hS hl
  have he : (qWs ω.1 ω.2.1 g)[b]? = some (ω.1 b, .inl (ω.2.1 2, qAr 2 n (g b))) := by
    rw [qWs_get _ _ _ hb38]
    unfold qCe
    rw [hlay]
  have hq := hw.2.2 b a
  rw [hrg a] at hq
  have ht : (((iI a).toNatClampNeg : Nat) : Int) = a := by rw [iI_cl ⟨hi0.1, by omega⟩]; omega
  refine va_zald hx hb hst.1 hw.1 b 2 he rfl (iI_in ⟨hi0.1, hi0.2⟩ hn) hd ?_
  rw [ht]
  exact kk (g b a) rfl hq.1 hq.2 H locs la hw hS hl
theorem q_lald (C : qCx X ω own cc nL ret T fr mc) {b n : Nat} {a : Int} (lo hi : Int) (hlay : qLay b = .inl (3, n)) (hb38 : b < 38) (hn : n < 2147483648) (hi0 : 0 ≤ a ∧ a < n) (hrg : ∀ j, qRng b j = (lo, hi)) (hd : decode cc pc = .ok (.laload, 1)) (kk : ∀ v : Int, v = g b a → lo ≤ v → v ≤ hi → qT X ω nL k Q g (pc + 1) ls (.long (lI v) :: st)) : qT X ω nL k Q g pc ls (.int (iI a) :: .ref (ω.1 b) :: st) := by
  obtain ⟨p, l, e, R, s, m, args, below, meth, c⟩ := X
  obtain ⟨hx, hb, hr, hml, hown, hts, -, -, -, hst, -⟩ := C
  intro H locs la hw hS hl
  have he : (qWs ω.1 ω.2.1 g)[b]? = some (ω.1 b, .inl (ω.2.1 3, qAr 3 n (g b))) := by
    rw [qWs_get _ _ _ hb38]
    unfold qCe
    rw [hlay]
  have hq := hw.2.2 b a
  rw [hrg a] at hq
  have ht : (((iI a).toNatClampNeg : Nat) : Int) = a := by rw [iI_cl ⟨hi0.1, by omega⟩]; omega
  refine va_lald hx hb hst.1 hw.1 b 3 he rfl (iI_in ⟨hi0.1, hi0.2⟩ hn) hd ?_
  rw [ht]
  exact kk (g b a) rfl hq.1 hq.2 H locs la hw hS hl
theorem q_dald (C : qCx X ω own cc nL ret T fr mc) {b n : Nat} {a : Int} (hlay : qLay b = .inl (4, n)) (hb38 : b < 38) (hn : n < 2147483648) (hi0 : 0 ≤ a ∧ a < n) (hd : decode cc pc = .ok (.daload, 1)) (kk : qT X ω nL k Q g (pc + 1) ls (.double (UInt64.ofNat (g b a).toNat) :: st)) : qT X ω nL k Q g pc ls (.int (iI a) :: .ref (ω.1 b) :: st) := by
  obtain ⟨p, l, e, R, s, m, args, below, meth, c⟩ := X
  obtain ⟨hx, hb, hr, hml, hown, hts, -, -, -, hst, -⟩ := C
  intro H locs la hw hS hl
  have he : (qWs ω.1 ω.2.1 g)[b]? = some (ω.1 b, .inl (ω.2.1 4, qAr 4 n (g b))) := by
    rw [qWs_get _ _ _ hb38]
    unfold qCe
    rw [hlay]
  have ht : (((iI a).toNatClampNeg : Nat) : Int) = a := by rw [iI_cl ⟨hi0.1, by omega⟩]; omega
  refine va_dald hx hb hst.1 hw.1 b 4 he rfl (iI_in ⟨hi0.1, hi0.2⟩ hn) hd ?_
  rw [ht]
  exact kk H locs la hw hS hl
theorem qAr_set {t n b : Nat} {g : qHp} {a w : Int} (h : 0 ≤ a ∧ a < 2147483648) (ht : t < 3) : ((n, .inl (upd (fun j => iI (g b j)) (iI a).toNatClampNeg (iI w))) : vp_A) = qAr t n (qUp g b a w b) := by
  have e : upd (fun j => iI (g b j)) (iI a).toNatClampNeg (iI w) = fun j : Nat => iI (qUp g b a w b j) := by
    funext j
    unfold upd qUp
    rw [iI_cl h]
    by_cases hj : j = a.toNat
    · have : (j : Int) = a := by omega
      rw [if_pos hj, if_pos ⟨rfl, this⟩]
    · have : ¬ (j : Int) = a := by omega
      rw [if_neg hj, if_neg (fun q => this q.2)]
  rw [e]
  match t, ht with
  | 0, _ => rfl
  | 1, _ => rfl
  | 2, _ => rfl
theorem qAr_setL {n b : Nat} {g : qHp} {a w : Int} (h : 0 ≤ a ∧ a < 2147483648) : ((n, .inr (.inl (vp_updL (fun j => lI (g b j)) (iI a).toNatClampNeg (lI w)))) : vp_A) = qAr 3 n (qUp g b a w b) := by
  have e : vp_updL (fun j => lI (g b j)) (iI a).toNatClampNeg (lI w) = fun j : Nat => lI (qUp g b a w b j) := by
    funext j
    unfold vp_updL qUp
    rw [iI_cl h]
    by_cases hj : j = a.toNat
    · have : (j : Int) = a := by omega
      rw [if_pos hj, if_pos ⟨rfl, this⟩]
    · have : ¬ (j : Int) = a := by omega
      rw [if_neg hj, if_neg (fun q => this q.2)]
  rw [e]
  rfl
theorem qAr_setD {n b : Nat} {g : qHp} {a : Int} {x : UInt64} (h : 0 ≤ a ∧ a < 2147483648) : ((n, .inr (.inr (.inr (.inl (vf_upd (fun j => UInt64.ofNat (g b j).toNat) (iI a).toNatClampNeg x))))) : vp_A) = qAr 4 n (qUp g b a x.toNat b) := by
  have e : vf_upd (fun j => UInt64.ofNat (g b j).toNat) (iI a).toNatClampNeg x = fun j : Nat => UInt64.ofNat (qUp g b a x.toNat b j).toNat := by
    funext j
    unfold vf_upd qUp
    rw [iI_cl h]
    by_cases hj : j = a.toNat
    · have : (j : Int) = a := by omega
      rw [if_pos hj, if_pos ⟨rfl, this⟩]
      simp
    · have : ¬ (j : Int) = a := by omega
      rw [if_neg hj, if_neg (fun q => this q.2)]
  rw [e]
  rfl
theorem nar_c {w : Int} (h : 0 ≤ w ∧ w < 65536) : vp_nar .char (iI w) = iI w := by
  obtain ⟨n, rfl⟩ : ∃ n : Nat, w = n := ⟨w.toNat, by omega⟩
  have e : iI (n : Int) = nI n := rfl
  rw [e]
  have h2 := (pk_charN (q := n) (by omega)).1
  unfold vp_nar
  rw [h2]
theorem nar_z {w : Int} (h : w = 0 ∨ w = 1) : vp_nar .boolean (iI w) = iI w := by
  rcases h with rfl | rfl <;> decide +kernel
theorem q_iast (C : qCx X ω own cc nL ret T fr mc) {b n : Nat} {a w : Int} (hlay : qLay b = .inl (0, n)) (hb38 : b < 38) (hn : n < 2147483648) (hi0 : 0 ≤ a ∧ a < n)  (hrg : (qRng b a).1 ≤ w ∧ w ≤ (qRng b a).2) (hd : decode cc pc = .ok (.iastore, 1)) (kk : qT X ω nL k Q (qUp g b a w) (pc + 1) ls st) : qT X ω nL k Q g pc ls (.int (iI w) :: .int (iI a) :: .ref (ω.1 b) :: st) := by
  obtain ⟨p, l, e, R, s, m, args, below, meth, c⟩ := X
  obtain ⟨hx, hb, hr, hml, hown, hts, -, -, -, hst, -⟩ := C
  intro H locs la hw hS hl
  have he : (qWs ω.1 ω.2.1 g)[b]? = some (ω.1 b, .inl (ω.2.1 0, qAr 0 n (g b))) := by
    rw [qWs_get _ _ _ hb38]
    unfold qCe
    rw [hlay]
  refine va_iast hx hb hst.1 hw.1 hw.2.1 hS b 0 he rfl (iI_in ⟨hi0.1, hi0.2⟩ hn) hd (fun H1 locs1 hP1 hD1 hS1 => ?_)
  rw [qAr_set (t := 0) (by omega) (by decide)] at hP1 hD1
  have hset : (qWs ω.1 ω.2.1 g).set b (ω.1 b, .inl (ω.2.1 0, qAr 0 n (qUp g b a w b))) = qWs ω.1 ω.2.1 (qUp g b a w) := by
    rw [← qWs_set hb38]
    congr 2
    unfold qCe
    rw [hlay]
  rw [hset] at hP1 hD1
  exact kk H1 locs1 la ⟨hP1, hD1, qUp_nm hw.2.2 hrg⟩ hS1 hl
theorem q_cast (C : qCx X ω own cc nL ret T fr mc) {b n : Nat} {a w : Int} (hlay : qLay b = .inl (1, n)) (hb38 : b < 38) (hn : n < 2147483648) (hi0 : 0 ≤ a ∧ a < n) (hch : 0 ≤ w ∧ w < 65536) (hrg : (qRng b a).1 ≤ w ∧ w ≤ (qRng b a).2) (hd : decode cc pc = .ok (.castore, 1)) (kk : qT X ω nL k Q (qUp g b a w) (pc + 1) ls st) : qT X ω nL k Q g pc ls (.int (iI w) :: .int (iI a) :: .ref (ω.1 b) :: st) := by
  obtain ⟨p, l, e, R, s, m, args, below, meth, c⟩ := X
  obtain ⟨hx, hb, hr, hml, hown, hts, -, -, -, hst, -⟩ := C
  intro H locs la hw hS hl
  have he : (qWs ω.1 ω.2.1 g)[b]? = some (ω.1 b, .inl (ω.2.1 1, qAr 1 n (g b))) := by
    rw [qWs_get _ _ _ hb38]
    unfold qCe
    rw [hlay]
  refine va_cast hx hb hst.1 hw.1 hw.2.1 hS b 1 he rfl (iI_in ⟨hi0.1, hi0.2⟩ hn) hd (fun H1 locs1 hP1 hD1 hS1 => ?_)
  rw [nar_c hch] at hP1 hD1
  rw [qAr_set (t := 1) (by omega) (by decide)] at hP1 hD1
  have hset : (qWs ω.1 ω.2.1 g).set b (ω.1 b, .inl (ω.2.1 1, qAr 1 n (qUp g b a w b))) = qWs ω.1 ω.2.1 (qUp g b a w) := by
    rw [← qWs_set hb38]
    congr 2
    unfold qCe
    rw [hlay]
  rw [hset] at hP1 hD1
  exact kk H1 locs1 la ⟨hP1, hD1, qUp_nm hw.2.2 hrg⟩ hS1 hl
theorem q_zast (C : qCx X ω own cc nL ret T fr mc) {b n : Nat} {a w : Int} (hlay : qLay b = .inl (2, n)) (hb38 : b < 38) (hn : n < 2147483648) (hi0 : 0 ≤ a ∧ a < n) (hch : w = 0 ∨ w = 1) (hrg : (qRng b a).1 ≤ w ∧ w ≤ (qRng b a).2) (hd : decode cc pc = .ok (.bastore, 1)) (kk : qT X ω nL k Q (qUp g b a w) (pc + 1) ls st) : qT X ω nL k Q g pc ls (.int (iI w) :: .int (iI a) :: .ref (ω.1 b) :: st) := by
  obtain ⟨p, l, e, R, s, m, args, below, meth, c⟩ := X
  obtain ⟨hx, hb, hr, hml, hown, hts, -, -, -, hst, -⟩ := C
  intro H locs la hw hS hl
  have he : (qWs ω.1 ω.2.1 g)[b]? = some (ω.1 b, .inl (ω.2.1 2, qAr 2 n (g b))) := by
    rw [qWs_get _ _ _ hb38]
    unfold qCe
    rw [hlay]
  refine va_zast hx hb hst.1 hw.1 hw.2.1 hS b 2 he rfl (iI_in ⟨hi0.1, hi0.2⟩ hn) hd (fun H1 locs1 hP1 hD1 hS1 => ?_)
  rw [nar_z hch] at hP1 hD1
  rw [qAr_set (t := 2) (by omega) (by decide)] at hP1 hD1
  have hset : (qWs ω.1 ω.2.1 g).set b (ω.1 b, .inl (ω.2.1 2, qAr 2 n (qUp g b a w b))) = qWs ω.1 ω.2.1 (qUp g b a w) := by
    rw [← qWs_set hb38]
    congr 2
    unfold qCe
    rw [hlay]
  rw [hset] at hP1 hD1
  exact kk H1 locs1 la ⟨hP1, hD1, qUp_nm hw.2.2 hrg⟩ hS1 hl
theorem q_last (C : qCx X ω own cc nL ret T fr mc) {b n : Nat} {a w : Int} (hlay : qLay b = .inl (3, n)) (hb38 : b < 38) (hn : n < 2147483648) (hi0 : 0 ≤ a ∧ a < n)  (hrg : (qRng b a).1 ≤ w ∧ w ≤ (qRng b a).2) (hd : decode cc pc = .ok (.lastore, 1)) (kk : qT X ω nL k Q (qUp g b a w) (pc + 1) ls st) : qT X ω nL k Q g pc ls (.long (lI w) :: .int (iI a) :: .ref (ω.1 b) :: st) := by
  obtain ⟨p, l, e, R, s, m, args, below, meth, c⟩ := X
  obtain ⟨hx, hb, hr, hml, hown, hts, -, -, -, hst, -⟩ := C
  intro H locs la hw hS hl
  have he : (qWs ω.1 ω.2.1 g)[b]? = some (ω.1 b, .inl (ω.2.1 3, qAr 3 n (g b))) := by
    rw [qWs_get _ _ _ hb38]
    unfold qCe
    rw [hlay]
  refine va_last hx hb hst.1 hw.1 hw.2.1 hS b 3 he rfl (iI_in ⟨hi0.1, hi0.2⟩ hn) hd (fun H1 locs1 hP1 hD1 hS1 => ?_)
  rw [qAr_setL (by omega)] at hP1 hD1
  have hset : (qWs ω.1 ω.2.1 g).set b (ω.1 b, .inl (ω.2.1 3, qAr 3 n (qUp g b a w b))) = qWs ω.1 ω.2.1 (qUp g b a w) := by
    rw [← qWs_set hb38]
    congr 2
    unfold qCe
    rw [hlay]
  rw [hset] at hP1 hD1
  exact kk H1 locs1 la ⟨hP1, hD1, qUp_nm hw.2.2 hrg⟩ hS1 hl
theorem q_dast (C : qCx X ω own cc nL ret T fr mc) {b n : Nat} {a : Int} {x : UInt64} (hlay : qLay b = .inl (4, n)) (hb38 : b < 38) (hn : n < 2147483648) (hi0 : 0 ≤ a ∧ a < n) (hrg : (qRng b a).1 ≤ (x.toNat : Int) ∧ (x.toNat : Int) ≤ (qRng b a).2) (hd : decode cc pc = .ok (.dastore, 1)) (kk : qT X ω nL k Q (qUp g b a x.toNat) (pc + 1) ls st) : qT X ω nL k Q g pc ls (.double x :: .int (iI a) :: .ref (ω.1 b) :: st) := by
  obtain ⟨p, l, e, R, s, m, args, below, meth, c⟩ := X
  obtain ⟨hx, hb, hr, hml, hown, hts, -, -, -, hst, -⟩ := C
  intro H locs la hw hS hl
  have he : (qWs ω.1 ω.2.1 g)[b]? = some (ω.1 b, .inl (ω.2.1 4, qAr 4 n (g b))) := by
    rw [qWs_get _ _ _ hb38]
    unfold qCe
    rw [hlay]
  refine va_dast hx hb hst.1 hw.1 hw.2.1 hS b 4 he rfl (iI_in ⟨hi0.1, hi0.2⟩ hn) hd (fun H1 locs1 hP1 hD1 hS1 => ?_)
  rw [qAr_setD (by omega)] at hP1 hD1
  have hset : (qWs ω.1 ω.2.1 g).set b (ω.1 b, .inl (ω.2.1 4, qAr 4 n (qUp g b a x.toNat b))) = qWs ω.1 ω.2.1 (qUp g b a x.toNat) := by
    rw [← qWs_set hb38]
    congr 2
    unfold qCe
    rw [hlay]
  rw [hset] at hP1 hD1
  exact kk H1 locs1 la ⟨hP1, hD1, qUp_nm hw.2.2 hrg⟩ hS1 hl
end QR
end
section
/-! entry, ends, calls, throws of the small machine -/
theorem qNgw_tabs {w : Cond} (h : qNgw w = true) : w.onTables = true := by
  cases w <;> first | rfl | (simp [qNgw] at h)
theorem qNg_tabs {w : Cond} (h : w ∈ qNg) : w.onTables = true := qNgw_tabs (List.mem_filter.mp h).2
theorem qNgw_warm {s U : State} (hW : s.WarmedH U.vm) {w : Cond} (h : qNgw w = true) (hZ : va_Nw w s) : va_Nw w U := by
  cases w with
  | castable C D => exact va_Nw.warmC hW hZ
  | declares x => exact va_Nw.warmD hW hZ
  | methodLinkNest a i x h => exact va_Nw.warmM hW hZ
  | _ => simp [qNgw] at h
theorem qSt_warm {ω : qOm} {s U : State} {H : Heap} {locs : List Loc} (h : qSt ω s) (hS : va_S (qA ω) s.heap H locs) (hU : U.heap = H) (hW : s.WarmedH U.vm) : qSt ω U := by
  obtain ⟨hK, hz1, hz2, hstr, hng, hnc, hz⟩ := h
  refine ⟨va_K.moved hW.alike hK, ?_, ?_, fun q hq => ?_, fun w hw => qNgw_warm hW (List.mem_filter.mp hw).2 (hng w hw), fun E hE F hF hne => va_Nc.moved hW.alike (hnc E hE F hF hne), ?_⟩
  · rw [hU]; exact vx_Zq.moved hW.alike (hz1.kept hS.2.1)
  · rw [hU]; exact vx_Zq.moved hW.alike (hz2.kept hS.2.1)
  · obtain ⟨a, ha⟩ := hstr q hq
    exact ⟨a, vk_R.warm hW ha⟩
  · rw [hU]; exact Nat.le_trans hz hS.1
theorem qSt_same {ω : qOm} {U : State} (g : JFrame) (mk : MethodId) (a : Array Value) (h : qSt ω U) : qSt ω (U.calling g mk a) := by
  obtain ⟨hK, hz1, hz2, hstr, hng, hnc, hz⟩ := h
  refine ⟨va_K.moved (u := U) (U := U.calling g mk a) (Vm.Alike.refl U.vm) hK, vx_Zq.moved (u := U) (U := U.calling g mk a) (Vm.Alike.refl U.vm) hz1, vx_Zq.moved (u := U) (U := U.calling g mk a) (Vm.Alike.refl U.vm) hz2, fun q hq => ?_, fun w hw => va_Nw.same (u := U) (U := U.calling g mk a) (qNg_tabs hw) rfl (hng w hw), fun E hE F hF hne => va_Nc.moved (u := U) (U := U.calling g mk a) (Vm.Alike.refl U.vm) (hnc E hE F hF hne), hz⟩
  obtain ⟨a, ha⟩ := hstr q hq
  exact ⟨a, vk_R.same rfl ha⟩
theorem qBlind {ω : qOm} {g0 : qHp} {av : List Value} : FrameBlind (va_Pc av (fun U => qSt ω U ∧ qDy ω g0 U.heap)) := fun _ _ g mk q => ⟨q.1, qSt_same g mk _ q.2.1, q.2.2⟩
theorem qAW_good : GoodIn qAW qAW := fun _ hw => ⟨hw, good_of_word (List.mem_filter.mp hw).2⟩
theorem qWds_good {cd : Cond} (h : cd ∈ qAW) : GoodIn qAW (qWds cd) := fun w hw => by
  rcases List.mem_cons.mp hw with rfl | hw
  · exact qAW_good w h
  · exact qAW_good w hw
/-- a contract, for every launch without stack traces -/
def qC (y : MethodName) (cd : Cond) (fr mc : Nat) (av : (Nat → Nat) → List Value) (g : qHp) (Post : Option Value → qHp → Prop) (PX : String → qHp → Prop) : Prop := ∀ l : Launch, l.stackTraces = false → qCt l y cd fr mc av g Post PX
def qMth (y : MethodName) (cd : Cond) (bytes : ByteArray) (maxL : Nat) (rt : Option FieldType) (n : Nat) : Prop := cd = .code y bytes maxL rt ∧ cd ∈ qAW ∧ Cond.instanceMethod y ∈ qAW ∧ Cond.selects y.cls y y ∈ qAW ∧ Cond.initialized y.cls ∈ qAW ∧ (y.cls ≠ "java/lang/invoke/MethodHandle" ∧ y.cls ≠ "java/lang/invoke/VarHandle" ∧ (parseMethodDescriptor y.desc).map (fun d => d.parameters.length) = some n) ∧ maxL ≤ 21
def qMts (y : MethodName) (cd : Cond) (bytes : ByteArray) (maxL : Nat) (rt : Option FieldType) (n : Nat) : Prop := cd = .code y bytes maxL rt ∧ cd ∈ qAW ∧ Cond.static y ∈ qAW ∧ Cond.initialized y.cls ∈ qAW ∧ (y.cls ≠ "java/lang/invoke/MethodHandle" ∧ y.cls ≠ "java/lang/invoke/VarHandle" ∧ (parseMethodDescriptor y.desc).map (fun d => d.parameters.length) = some n) ∧ maxL ≤ 21
/-- with an exception of class E thrown over the frame -/
def qTx (X : qEnv) (ω : qOm) (nL k : Nat) (Q : State → Prop) (g : qHp) (pc : Nat) (ls : List (Nat × Value)) (st : List Value) (E : String) : Prop := match X with
  | (p, l, e, R, s, m, args, below, meth, c) => ∀ (H : Heap) (locs : List Loc) (la : Array Slot) (q : Nat) (ce : Cell), qDy ω g H → va_S (qA ω) s.heap H locs → lv_has la nL ls → H[q]? = some ce → ce.vm = .none → s.vm.findClass E = some ce.cls → vx_W p l e R s m args below meth c H locs k (6 * k) Q (F0 m pc la st) q
/-- a body -/
theorem q_meth {y : MethodName} {bytes : ByteArray} {maxL : Nat} {ret : Option FieldType} {fr mc : Nat} {av : (Nat → Nat) → List Value} {g : qHp} {Post : Option Value → qHp → Prop} {PX : String → qHp → Prop} {own : String} (hy : plainName y.cls = true) (hown : y.cls = own) (hlen : ∀ ad, (lg_sl (av ad)).length ≤ maxL)
    (body : ∀ (X : qEnv) (ω : qOm), qCx X ω own bytes maxL ret [] fr mc → qT X ω maxL 0 (qEnd X ω Post PX mc) g 0 (lv_args 0 (av ω.1)) []) : qC y (.code y bytes maxL ret) fr mc av g Post PX := by
  intro l hlt ω
  refine vx_ofW (ws' := qAW) hy rfl ?_
  intro p e s m args below meth c s₁ B hml htab hv
  obtain ⟨rfl, hSt, hDy⟩ := hv
  have hts := atoms_spec (ws := qWds (.code y bytes maxL ret)) B.pre
  have h := body (p, l, e, qRm fr mc, s, m, (av ω.1).toArray, below, meth, c) ω ⟨B.exec, B.bytes, B.returns, hml, hown ▸ findClass_of_methodNamed B.named, fun w hw => hts w (List.mem_cons_of_mem _ hw), B.notSynchronized, List.eq_nil_iff_forall_not_mem.mpr fun x hx => htab x hx, hlt, hSt, rfl, rfl, Nat.le_refl _, Nat.le_refl _⟩
  rw [lg_entry_eq]
  exact h s.heap [] _ hDy va_S.rf (lv_entry (av ω.1) (hlen ω.1))
section QC
variable {X : qEnv} {ω : qOm} {own : String} {cc : ByteArray} {nL : Nat} {ret : Option FieldType} {T : List ExceptionTableEntry} {fr mc k : Nat} {Q : State → Prop} {g : qHp} {pc : Nat} {ls : List (Nat × Value)} {st : List Value}
variable {Post : Option Value → qHp → Prop} {PX : String → qHp → Prop}
theorem q_ret_post {ω : qOm} {s t : State} {H : Heap} {locs : List Loc} {args : Array Value} {v : Option Value} (hw : qDy ω g H) (hS : va_S (qA ω) s.heap H locs) (ht : t.heap = H) (hp : Post v g) : qQc ω Post args s (.returned v) t := ⟨v, g, rfl, hp, by rw [ht]; exact hw, hS.F ht⟩
theorem q_ireturn (C : qCx X ω own cc nL ret T fr mc) {r : Int} {ty : FieldType} (hret : ret = some ty) (hnar : narrow ty (.int (iI r)) = .int (iI r)) (hk : k ≤ mc) (hd : decode cc pc = .ok (.ireturn, 1)) (hp : Post (some (.int (iI r))) g) : qT X ω nL k (qEnd X ω Post PX mc) g pc ls [.int (iI r)] := by
  obtain ⟨p, l, e, R, s, m, args, below, meth, c⟩ := X
  obtain ⟨hx, hb, hr, hml, hown, hts, hlk, -⟩ := C
  intro H locs la hw hS hl
  refine W.widen hk (Nat.mul_le_mul_left 6 hk) (vx_ret ?_)
  exact W.zret hx hb (hr.trans hret) hnar (fun t ht _ => q_ret_post hw hS ht hp) hS.2.2 hd hlk
theorem q_return (C : qCx X ω own cc nL ret T fr mc) (hret : ret = none) (hk : k ≤ mc) (hd : decode cc pc = .ok (.return_, 1)) (hp : Post none g) : qT X ω nL k (qEnd X ω Post PX mc) g pc ls [] := by
  obtain ⟨p, l, e, R, s, m, args, below, meth, c⟩ := X
  obtain ⟨hx, hb, hr, hml, hown, hts, hlk, -⟩ := C
  intro H locs la hw hS hl
  refine W.widen hk (Nat.mul_le_mul_left 6 hk) (vx_ret ?_)
  exact W.vret hx hb (hr.trans hret) (fun t ht _ => q_ret_post hw hS ht hp) hS.2.2 hd hlk
theorem q_lreturn (C : qCx X ω own cc nL ret T fr mc) {r : Int} (hret : ret = some .long) (hk : k ≤ mc) (hd : decode cc pc = .ok (.lreturn, 1)) (hp : Post (some (.long (lI r))) g) : qT X ω nL k (qEnd X ω Post PX mc) g pc ls [.long (lI r)] := by
  obtain ⟨p, l, e, R, s, m, args, below, meth, c⟩ := X
  obtain ⟨hx, hb, hr, hml, hown, hts, hlk, -⟩ := C
  intro H locs la hw hS hl
  refine W.widen hk (Nat.mul_le_mul_left 6 hk) (vx_ret ?_)
  exact W.lret hx hb (hr.trans hret) (fun t ht _ => q_ret_post hw hS ht hp) hS.2.2 hd hlk
theorem q_freturn (C : qCx X ω own cc nL ret T fr mc) {r : UInt32} (hret : ret = some .float) (hk : k ≤ mc) (hd : decode cc pc = .ok (.freturn, 1)) (hp : Post (some (.float r)) g) : qT X ω nL k (qEnd X ω Post PX mc) g pc ls [.float r] := by
  obtain ⟨p, l, e, R, s, m, args, below, meth, c⟩ := X
  obtain ⟨hx, hb, hr, hml, hown, hts, hlk, -⟩ := C
  intro H locs la hw hS hl
  refine W.widen hk (Nat.mul_le_mul_left 6 hk) (vx_ret ?_)
  exact W.fret hx hb (hr.trans hret) (fun t ht _ => q_ret_post hw hS ht hp) hS.2.2 hd hlk
/-! the usual ends -/
theorem q_iretI (C : qCx X ω own cc nL (some .int) T fr mc) {P : Int → qHp → Prop} {r : Int} (hd : decode cc pc = .ok (.ireturn, 1)) (hr : -2147483648 ≤ r ∧ r < 2147483648) (hk : k ≤ mc) (hp : P r g) : qT X ω nL k (qEnd X ω (qPi P) PX mc) g pc ls [.int (iI r)] := q_ireturn C rfl rfl hk hd ⟨r, rfl, hr, hp⟩
theorem nar_B {r : Int} (h : r = 0 ∨ r = 1) : narrow .boolean (.int (iI r)) = .int (iI r) := by rcases h with rfl | rfl <;> decide +kernel
theorem nar_C {w : Int} (h : 0 ≤ w ∧ w < 65536) : narrow .char (.int (iI w)) = .int (iI w) := by
  obtain ⟨n, rfl⟩ : ∃ n : Nat, w = n := ⟨w.toNat, by omega⟩
  exact (pk_charN (q := n) (by omega)).1
theorem q_iretZ (C : qCx X ω own cc nL (some .boolean) T fr mc) {P : Int → qHp → Prop} {r : Int} (hd : decode cc pc = .ok (.ireturn, 1)) (hr : r = 0 ∨ r = 1) (hk : k ≤ mc) (hp : P r g) : qT X ω nL k (qEnd X ω (qPi P) PX mc) g pc ls [.int (iI r)] := q_ireturn C rfl (nar_B hr) hk hd ⟨r, rfl, by omega, hp⟩
theorem q_iretC (C : qCx X ω own cc nL (some .char) T fr mc) {P : Int → qHp → Prop} {r : Int} (hd : decode cc pc = .ok (.ireturn, 1)) (hr : 0 ≤ r ∧ r < 65536) (hk : k ≤ mc) (hp : P r g) : qT X ω nL k (qEnd X ω (qPi P) PX mc) g pc ls [.int (iI r)] := q_ireturn C rfl (nar_C hr) hk hd ⟨r, rfl, by omega, hp⟩
theorem q_retV (C : qCx X ω own cc nL none T fr mc) {P : qHp → Prop} (hd : decode cc pc = .ok (.return_, 1)) (hk : k ≤ mc) (hp : P g) : qT X ω nL k (qEnd X ω (qPv P) PX mc) g pc ls [] := q_return C rfl hk hd ⟨rfl, hp⟩
theorem q_lretL (C : qCx X ω own cc nL (some .long) T fr mc) {P : Int → qHp → Prop} {r : Int} (hd : decode cc pc = .ok (.lreturn, 1)) (hr : -9223372036854775808 ≤ r ∧ r < 9223372036854775808) (hk : k ≤ mc) (hp : P r g) : qT X ω nL k (qEnd X ω (qPl P) PX mc) g pc ls [.long (lI r)] := q_lreturn C rfl hk hd ⟨r, rfl, hr, hp⟩
theorem q_fretF (C : qCx X ω own cc nL (some .float) T fr mc) {P : UInt32 → qHp → Prop} {r : UInt32} (hd : decode cc pc = .ok (.freturn, 1)) (hk : k ≤ mc) (hp : P r g) : qT X ω nL k (qEnd X ω (qPf P) PX mc) g pc ls [.float r] := q_freturn C rfl hk hd ⟨r, rfl, hp⟩
/-- an exception that isn't caught here -/
theorem q_xout (C : qCx X ω own cc nL ret [] fr mc) {E : String} (hk : k ≤ mc) (hp : PX E g) : qTx X ω nL k (qEnd X ω Post PX mc) g pc ls st E := by
  obtain ⟨p, l, e, R, s, m, args, below, meth, c⟩ := X
  obtain ⟨hx, hb, hr, hml, hown, hts, hlk, htb, -⟩ := C
  intro H locs la q ce hw hS hl hce hcv hcl
  exact vx_out (fun x hx => by rw [htb] at hx; cases hx) hlk hce hcv hcl (fun t ht _ => ⟨g, hp, by rw [ht]; exact hw, hS.F ht⟩) hS.2.2 hk (Nat.mul_le_mul_left 6 hk)
/-- a call that has been set up -/
theorem q_run {p : Program} {l : Launch} {e : Env} {R : Room} {s : State} {m : MethodId} {args : Array Value} {below : List Frame} {meth : Method} {c : Code} {H : Heap} {locs : List Loc} {la : Array Slot} {rest : List Value} {a : Array Value} {mc' : Nat}
    (hr : vx_Run p l e R s m args below meth c H locs k (6 * k) mc' (6 * mc') (F0 m pc la st) rest (qQc ω Post a) (qXc ω PX) (qA ω)) (hS : va_S (qA ω) s.heap H locs) (hl : lv_has la nL ls)
    (kk : ∀ v g', Post v g' → qT (p, l, e, R, s, m, args, below, meth, c) ω nL (k + mc') Q g' (pc + 3) ls (v.toList ++ rest))
    (kx : ∀ E g', PX E g' → qTx (p, l, e, R, s, m, args, below, meth, c) ω nL (k + mc') Q g' pc ls rest E) : W p l e R s m args below meth c H locs k (6 * k) Q (F0 m pc la st) := by
  have keep : ∀ {st₀ t T' : State} {L : List Loc}, st₀.heap = H → T'.heap = t.heap → (∀ q ∈ L, qA ω q.base) → va_F (qA ω) st₀ t → va_S (qA ω) s.heap T'.heap (locs ++ L) := by
    intro st₀ t T' L h0 e1 hL hF
    obtain ⟨hz, hk⟩ := hF
    rw [h0] at hz hk
    refine ⟨Nat.le_trans hS.1 (by rw [e1]; exact hz), fun q h1 h2 => by rw [e1, hk q (Nat.lt_of_lt_of_le h1 hS.1) h2]; exact hS.2.1 q h1 h2, fun q hq => ?_⟩
    rcases List.mem_append.mp hq with h | h
    · exact hS.2.2 q h
    · exact hL q h
  intro T hT X
  rcases hr T hT X with ⟨v, st₀, t, T', L, h0, X', hL, e1, e2, ⟨v', g', hv, hp, hd, hF⟩, st⟩ | ⟨q, st₀, t, T', L, E, ce, h0, X', hL, e1, e2, ⟨g', hp, hd, hF⟩, hce, hcv, hcl, st⟩
  · cases hv
    rw [← Nat.mul_add] at X'
    obtain ⟨t2, a1, b1⟩ := kk v g' hp T'.heap (locs ++ L) la (by rw [e1]; exact hd) (keep h0 e1 hL hF) hl T' rfl X'
    exact ⟨t2, st t2 a1, b1⟩
  · rw [← Nat.mul_add] at X'
    obtain ⟨t2, a1, b1⟩ := kx E g' hp T'.heap (locs ++ L) la q ce (by rw [e1]; exact hd) (keep h0 e1 hL hF) hl (by rw [e1]; exact hce) hcv hcl T' rfl X'
    exact ⟨t2, st.trans a1, b1⟩
theorem qPre {p : Program} {l : Launch} {e : Env} {R : Room} {s : State} {H : Heap} {locs : List Loc} {av : List Value} (hSt : qSt ω s) (hS : va_S (qA ω) s.heap H locs) (hw : qDy ω g H) : PreS s H (va_Pc av (fun U => qSt ω U ∧ qDy ω g U.heap)) av := ⟨qBlind, fun U hU hW => ⟨rfl, qSt_warm hSt hS hU hW, by rw [hU]; exact hw⟩⟩
theorem q_callV0 (C : qCx X ω own cc nL ret T fr mc) {y : MethodName} {cd : Cond} {bytes : ByteArray} {maxL fr' mc' n idx b ci N : Nat} {rt : Option FieldType} {av : (Nat → Nat) → List Value} {Post' : Option Value → qHp → Prop} {PX' : String → qHp → Prop} {As rest : List Value} {ds : List qFd} {Cn : String} {TT : u_T}
    (hM : qC y cd fr' mc' av g Post' PX') (M : qMth y cd bytes maxL rt n) (hlk : Cond.methodLink own idx y ∈ qAW) (hav : av ω.1 = .ref (ω.1 b) :: As) (hst : st = As.reverse ++ .ref (ω.1 b) :: rest) (hn : As.length = n) (hcat : (rest.map fun v => v.category).sum ≤ 8) (hd : decode cc pc = .ok (.invokevirtual idx, 3)) (hfr : fr' < fr) (hmc : k + mc' ≤ mc)
    (hlay : qLay b = .inr (ci, ds)) (hb38 : b < 38) (hc : vwCl[ci]? = some (Cn, TT, N)) (hCn : y.cls = Cn)
    (kk : ∀ v g', Post' v g' → qT X ω nL (k + mc') Q g' (pc + 3) ls (v.toList ++ rest)) (kx : ∀ E g', PX' E g' → qTx X ω nL (k + mc') Q g' pc ls rest E) : qT X ω nL k Q g pc ls st := by
  obtain ⟨p, l, e, R, s, m, args, below, meth, c⟩ := X
  obtain ⟨hx, hb, hr, hml, hown, hts, hlk0, htb, hlt, hSt, hfR, hlR, hcR, hsR⟩ := C
  obtain ⟨rfl, m1, m2, m3, m4, m5, m6⟩ := M
  intro H locs la hw hS hl
  have he : (qWs ω.1 ω.2.1 g)[b]? = some (ω.1 b, .inr (ci, qFs ω.1 (g b) 0 ds)) := by
    rw [qWs_get _ _ _ hb38]
    unfold qCe
    rw [hlay]
  have hrec := va_recv hSt.1 hw.1 hc he
  have hrun : vx_Run p l e R s m args below meth c H locs k (6 * k) mc' (6 * mc') (F0 m pc la st) rest (qQc ω Post' (Value.ref (ω.1 b) :: As).toArray) (qXc ω PX') (qA ω) := vx_runV (Ts := qAW) (mc := mc') (ms := 6 * mc') (C := Cn) (As := As) (rest := rest) (b := ω.1 b) (g := F0 m pc la st) (nL := nL) ⟨hx, hb, hml, hown, hts⟩ (hM l hlt ω)
    (cw := ⟨callB_of (ws' := qAW) n hts (qWds_good m1) rfl rfl rfl (hts _ m4) (hts _ hlk) m5 ⟨by show fr' + 1 ≤ R.frames; omega, by show 8 + (maxL + 11) + 40 * fr' ≤ R.locals; omega⟩, hts _ m2, by rw [← hCn]; exact hts _ m3⟩)
    ⟨qBlind, hrec, fun U hU hW => ⟨by rw [hav], qSt_warm hSt hS hU hW, by rw [hU]; exact hw⟩⟩ rfl hn hl.1 hst (lv_room hcat) hd ⟨by omega, by omega⟩
  exact q_run hrun hS hl kk kx
theorem q_callS0 (C : qCx X ω own cc nL ret T fr mc) {y : MethodName} {cd : Cond} {bytes : ByteArray} {maxL fr' mc' n idx : Nat} {rt : Option FieldType} {av : (Nat → Nat) → List Value} {Post' : Option Value → qHp → Prop} {PX' : String → qHp → Prop} {As rest : List Value}
    (hM : qC y cd fr' mc' av g Post' PX') (M : qMts y cd bytes maxL rt n) (hlk : Cond.methodLink own idx y ∈ qAW) (hav : av ω.1 = As) (hst : st = As.reverse ++ rest) (hn : As.length = n) (hcat : (rest.map fun v => v.category).sum ≤ 8) (hd : decode cc pc = .ok (.invokestatic idx, 3)) (hfr : fr' < fr) (hmc : k + mc' ≤ mc)
    (kk : ∀ v g', Post' v g' → qT X ω nL (k + mc') Q g' (pc + 3) ls (v.toList ++ rest)) (kx : ∀ E g', PX' E g' → qTx X ω nL (k + mc') Q g' pc ls rest E) : qT X ω nL k Q g pc ls st := by
  obtain ⟨p, l, e, R, s, m, args, below, meth, c⟩ := X
  obtain ⟨hx, hb, hr, hml, hown, hts, hlk0, htb, hlt, hSt, hfR, hlR, hcR, hsR⟩ := C
  obtain ⟨rfl, m1, m2, m4, m5, m6⟩ := M
  intro H locs la hw hS hl
  have hrun : vx_Run p l e R s m args below meth c H locs k (6 * k) mc' (6 * mc') (F0 m pc la st) rest (qQc ω Post' As.toArray) (qXc ω PX') (qA ω) := vx_runS (Ts := qAW) (mc := mc') (ms := 6 * mc') (As := As) (rest := rest) (g := F0 m pc la st) (nL := nL) ⟨hx, hb, hml, hown, hts⟩ (hM l hlt ω)
    (cw := ⟨callB_of (ws' := qAW) n hts (qWds_good m1) rfl rfl rfl (hts _ m4) (hts _ hlk) m5 ⟨by show fr' + 1 ≤ R.frames; omega, by show 8 + (maxL + 11) + 40 * fr' ≤ R.locals; omega⟩, hts _ m2⟩)
    ⟨qBlind, fun U hU hW => ⟨by rw [hav], qSt_warm hSt hS hU hW, by rw [hU]; exact hw⟩⟩ rfl hn hl.1 hst (lv_room hcat) hd ⟨by omega, by omega⟩
  exact q_run hrun hS hl kk kx
/-- throw new E("text") -/
theorem q_throw (C : qCx X ω own cc nL ret [] fr mc) {ik is ic : Nat} (cls text : String) (own_eq : own = "Quaylock") (hcls : Bundle.fit cls = true) (hk : Cond.classLink own ik cls ∈ qAW) (hini : Cond.initialized cls ∈ qAW) (hstr : (is, text) ∈ qSr) (hat : ∀ w ∈ vx_atS own ic cls ["java/lang/RuntimeException", "java/lang/Exception"], w ∈ qAW ∨ w ∈ qNg)
    (hgood : ∀ w ∈ Cond.classLink own ik cls :: Cond.initialized cls :: vx_atS own ic cls ["java/lang/RuntimeException", "java/lang/Exception"], vx_ot w = true)
    (d0 : decode cc pc = .ok (.new ik, 3)) (d3 : decode cc (pc + 3) = .ok (.dup, 1)) (d4 : decode cc (pc + 4) = .ok (.ldc is, 2)) (d6 : decode cc (pc + 6) = .ok (.invokespecial ic, 3)) (d9 : decode cc (pc + 9) = .ok (.athrow, 1))
    (hfr : 6 ≤ fr) (hcat : (st.map fun v => v.category).sum ≤ 8) (hmc : k + 1 ≤ mc) (hp : PX cls g) : qT X ω nL k (qEnd X ω Post PX mc) g pc ls st := by
  obtain ⟨p, l, e, R, s, m, args, below, meth, c⟩ := X
  obtain ⟨hx, hb, hr, hml, hown, hts, hlk0, htb, hlt, hSt, hfR, hlR, hcR, hsR⟩ := C
  intro H locs la hw hS hl
  obtain ⟨hK, hz1, hz2, hstrs, hng, -⟩ := hSt
  obtain ⟨sa, hsa⟩ := hstrs _ hstr
  subst own_eq
  refine vx_throwS (names := ["java/lang/RuntimeException", "java/lang/Exception"]) (text := text) (sa := sa) (A := qA ω) hx hb hlt hown hcls (by decide +kernel) (hts _ hk) (hts _ hini) hsa (fun w h => ?_) hgood hz1 hz2 hS (hl.1.trans hml.symm) d0 d3 d4 d6 d9 (fun x hx => by rw [htb] at hx; cases hx) (by simp only [List.length_cons, List.length_nil]; omega) (by simp only [List.length_cons, List.length_nil]; omega) (by omega) (by omega) hlk0 (fun t ht hz hq => ⟨g, hp, ⟨hw.1.kept (fun j q hj => hq q.1 (hw.1 j q hj).lt), hw.2⟩, ⟨Nat.le_trans hS.1 hz, fun q h1 h2 => by rw [hq q (Nat.lt_of_lt_of_le h1 hS.1)]; exact hS.2.1 q h1 h2⟩⟩) hS.2.2 (by omega) (by omega)
  rcases hat w h with h | h
  · exact hts w h
  · exact va_Nw.use (qNg_tabs h) (hng w h)
theorem q_throwW (C : qCx X ω own cc nL ret [] fr mc) {ik is ic : Nat} (cls text : String) (own_eq : own = "Quaylock") (hcls : Bundle.fit cls = true) (hk : Cond.classLink own ik cls ∈ qAW) (hini : Cond.initialized cls ∈ qAW) (hstr : (is, text) ∈ qSr) (hat : ∀ w ∈ vx_atS own ic cls ["java/lang/RuntimeException", "java/lang/Exception"], w ∈ qAW ∨ w ∈ qNg)
    (hgood : ∀ w ∈ Cond.classLink own ik cls :: Cond.initialized cls :: vx_atS own ic cls ["java/lang/RuntimeException", "java/lang/Exception"], vx_ot w = true)
    (d0 : decode cc pc = .ok (.new ik, 3)) (d3 : decode cc (pc + 3) = .ok (.dup, 1)) (d4 : decode cc (pc + 4) = .ok (.ldc_w is, 3)) (d7 : decode cc (pc + 7) = .ok (.invokespecial ic, 3)) (d10 : decode cc (pc + 10) = .ok (.athrow, 1))
    (hfr : 6 ≤ fr) (hcat : (st.map fun v => v.category).sum ≤ 8) (hmc : k + 1 ≤ mc) (hp : PX cls g) : qT X ω nL k (qEnd X ω Post PX mc) g pc ls st := by
  obtain ⟨p, l, e, R, s, m, args, below, meth, c⟩ := X
  obtain ⟨hx, hb, hr, hml, hown, hts, hlk0, htb, hlt, hSt, hfR, hlR, hcR, hsR⟩ := C
  intro H locs la hw hS hl
  obtain ⟨hK, hz1, hz2, hstrs, hng, -⟩ := hSt
  obtain ⟨sa, hsa⟩ := hstrs _ hstr
  subst own_eq
  refine vx_throwSW (names := ["java/lang/RuntimeException", "java/lang/Exception"]) (text := text) (sa := sa) (A := qA ω) hx hb hlt hown hcls (by decide +kernel) (hts _ hk) (hts _ hini) hsa (fun w h => ?_) hgood hz1 hz2 hS (hl.1.trans hml.symm) d0 d3 d4 d7 d10 (fun x hx => by rw [htb] at hx; cases hx) (by simp only [List.length_cons, List.length_nil]; omega) (by simp only [List.length_cons, List.length_nil]; omega) (by omega) (by omega) hlk0 (fun t ht hz hq => ⟨g, hp, ⟨hw.1.kept (fun j q hj => hq q.1 (hw.1 j q hj).lt), hw.2⟩, ⟨Nat.le_trans hS.1 hz, fun q h1 h2 => by rw [hq q (Nat.lt_of_lt_of_le h1 hS.1)]; exact hS.2.1 q h1 h2⟩⟩) hS.2.2 (by omega) (by omega)
  rcases hat w h with h | h
  · exact hts w h
  · exact va_Nw.use (qNg_tabs h) (hng w h)
end QC
end
section
/-! the tables words of each method, link and throw, by their places -/
theorem qm {w : Cond} (i : Nat) (h : lw_tbl[i]? = some w) (hg : goodWord w = true) : w ∈ qAW := List.mem_filter.mpr ⟨List.mem_of_getElem? h, hg⟩
theorem in_X0 : ∀ w ∈ u_ws RX0 TX0 4, w ∈ qAW := by
  intro w hw
  have h : u_ws RX0 TX0 4 = [76, 78, 80, 82].filterMap (fun i => lw_tbl[i]?) := by decide +kernel
  have h2 : (u_ws RX0 TX0 4).all goodWord = true := by decide +kernel
  have h3 := List.all_eq_true.mp h2 w hw
  rw [h] at hw
  obtain ⟨i, -, hi⟩ := List.mem_filterMap.mp hw
  exact List.mem_filter.mpr ⟨List.mem_of_getElem? hi, h3⟩
theorem in_X1 : ∀ w ∈ u_ws RX1 TX1 5, w ∈ qAW := by
  intro w hw
  have h : u_ws RX1 TX1 5 = [159, 161, 163, 165, 167].filterMap (fun i => lw_tbl[i]?) := by decide +kernel
  have h2 : (u_ws RX1 TX1 5).all goodWord = true := by decide +kernel
  have h3 := List.all_eq_true.mp h2 w hw
  rw [h] at hw
  obtain ⟨i, -, hi⟩ := List.mem_filterMap.mp hw
  exact List.mem_filter.mpr ⟨List.mem_of_getElem? hi, h3⟩
theorem in_X2 : ∀ w ∈ u_ws RX2 TX2 2, w ∈ qAW := by
  intro w hw
  have h : u_ws RX2 TX2 2 = [129, 131].filterMap (fun i => lw_tbl[i]?) := by decide +kernel
  have h2 : (u_ws RX2 TX2 2).all goodWord = true := by decide +kernel
  have h3 := List.all_eq_true.mp h2 w hw
  rw [h] at hw
  obtain ⟨i, -, hi⟩ := List.mem_filterMap.mp hw
  exact List.mem_filter.mpr ⟨List.mem_of_getElem? hi, h3⟩
theorem in_X3 : ∀ w ∈ u_ws RX3 TX3 4, w ∈ qAW := by
  intro w hw
  have h : u_ws RX3 TX3 4 = [139, 141, 143, 145].filterMap (fun i => lw_tbl[i]?) := by decide +kernel
  have h2 : (u_ws RX3 TX3 4).all goodWord = true := by decide +kernel
  have h3 := List.all_eq_true.mp h2 w hw
  rw [h] at hw
  obtain ⟨i, -, hi⟩ := List.mem_filterMap.mp hw
  exact List.mem_filter.mpr ⟨List.mem_of_getElem? hi, h3⟩
theorem in_X4 : ∀ w ∈ u_ws RX4 TX4 7, w ∈ qAW := by
  intro w hw
  have h : u_ws RX4 TX4 7 = [100, 102, 104, 106, 108, 110, 112].filterMap (fun i => lw_tbl[i]?) := by decide +kernel
  have h2 : (u_ws RX4 TX4 7).all goodWord = true := by decide +kernel
  have h3 := List.all_eq_true.mp h2 w hw
  rw [h] at hw
  obtain ⟨i, -, hi⟩ := List.mem_filterMap.mp hw
  exact List.mem_filter.mpr ⟨List.mem_of_getElem? hi, h3⟩
theorem in_X5 : ∀ w ∈ u_ws RX5 TX5 7, w ∈ qAW := by
  intro w hw
  have h : u_ws RX5 TX5 7 = [177, 179, 181, 183, 185, 187, 189].filterMap (fun i => lw_tbl[i]?) := by decide +kernel
  have h2 : (u_ws RX5 TX5 7).all goodWord = true := by decide +kernel
  have h3 := List.all_eq_true.mp h2 w hw
  rw [h] at hw
  obtain ⟨i, -, hi⟩ := List.mem_filterMap.mp hw
  exact List.mem_filter.mpr ⟨List.mem_of_getElem? hi, h3⟩
theorem in_X6 : ∀ w ∈ u_ws RX6 TX6 19, w ∈ qAW := by
  intro w hw
  have h : u_ws RX6 TX6 19 = [889, 891, 893, 895, 897, 899, 901, 903, 905, 907, 909, 911, 913, 915, 917, 919, 921, 923, 925].filterMap (fun i => lw_tbl[i]?) := by decide +kernel
  have h2 : (u_ws RX6 TX6 19).all goodWord = true := by decide +kernel
  have h3 := List.all_eq_true.mp h2 w hw
  rw [h] at hw
  obtain ⟨i, -, hi⟩ := List.mem_filterMap.mp hw
  exact List.mem_filter.mpr ⟨List.mem_of_getElem? hi, h3⟩
theorem mX0_come : qMth yX0_come (.code yX0_come cX0_come 1 (some .int)) cX0_come 1 (some .int) 0 := ⟨rfl, qm 392 (by decide +kernel) rfl, qm 390 (by decide +kernel) rfl, qm 391 (by decide +kernel) rfl, qm 43 (by decide +kernel) rfl, (by decide +kernel), (by decide +kernel)⟩
theorem mX0_register : qMth yX0_register (.code yX0_register cX0_register 3 (some .int)) cX0_register 3 (some .int) 1 := ⟨rfl, qm 397 (by decide +kernel) rfl, qm 395 (by decide +kernel) rfl, qm 396 (by decide +kernel) rfl, qm 43 (by decide +kernel) rfl, (by decide +kernel), (by decide +kernel)⟩
theorem mX0_weightOf : qMth yX0_weightOf (.code yX0_weightOf cX0_weightOf 2 (some .int)) cX0_weightOf 2 (some .int) 1 := ⟨rfl, qm 372 (by decide +kernel) rfl, qm 370 (by decide +kernel) rfl, qm 371 (by decide +kernel) rfl, qm 43 (by decide +kernel) rfl, (by decide +kernel), (by decide +kernel)⟩
theorem mX0_holdKind : qMth yX0_holdKind (.code yX0_holdKind cX0_holdKind 2 (some .char)) cX0_holdKind 2 (some .char) 1 := ⟨rfl, qm 533 (by decide +kernel) rfl, qm 531 (by decide +kernel) rfl, qm 532 (by decide +kernel) rfl, qm 43 (by decide +kernel) rfl, (by decide +kernel), (by decide +kernel)⟩
theorem mX0_holdEnd : qMth yX0_holdEnd (.code yX0_holdEnd cX0_holdEnd 2 (some .int)) cX0_holdEnd 2 (some .int) 1 := ⟨rfl, qm 537 (by decide +kernel) rfl, qm 535 (by decide +kernel) rfl, qm 536 (by decide +kernel) rfl, qm 43 (by decide +kernel) rfl, (by decide +kernel), (by decide +kernel)⟩
theorem mX0_isHeld : qMth yX0_isHeld (.code yX0_isHeld cX0_isHeld 2 (some .boolean)) cX0_isHeld 2 (some .boolean) 1 := ⟨rfl, qm 529 (by decide +kernel) rfl, qm 527 (by decide +kernel) rfl, qm 528 (by decide +kernel) rfl, qm 43 (by decide +kernel) rfl, (by decide +kernel), (by decide +kernel)⟩
theorem mX0_isPinned : qMth yX0_isPinned (.code yX0_isPinned cX0_isPinned 2 (some .boolean)) cX0_isPinned 2 (some .boolean) 1 := ⟨rfl, qm 582 (by decide +kernel) rfl, qm 580 (by decide +kernel) rfl, qm 581 (by decide +kernel) rfl, qm 43 (by decide +kernel) rfl, (by decide +kernel), (by decide +kernel)⟩
theorem mX0_isHeldIn : qMth yX0_isHeldIn (.code yX0_isHeldIn cX0_isHeldIn 3 (some .boolean)) cX0_isHeldIn 3 (some .boolean) 2 := ⟨rfl, qm 525 (by decide +kernel) rfl, qm 523 (by decide +kernel) rfl, qm 524 (by decide +kernel) rfl, qm 43 (by decide +kernel) rfl, (by decide +kernel), (by decide +kernel)⟩
theorem mX0_putHold : qMth yX0_putHold (.code yX0_putHold cX0_putHold 4 none) cX0_putHold 4 none 3 := ⟨rfl, qm 405 (by decide +kernel) rfl, qm 403 (by decide +kernel) rfl, qm 404 (by decide +kernel) rfl, qm 43 (by decide +kernel) rfl, (by decide +kernel), (by decide +kernel)⟩
theorem mX0_endHold : qMth yX0_endHold (.code yX0_endHold cX0_endHold 2 none) cX0_endHold 2 none 1 := ⟨rfl, qm 401 (by decide +kernel) rfl, qm 399 (by decide +kernel) rfl, qm 400 (by decide +kernel) rfl, qm 43 (by decide +kernel) rfl, (by decide +kernel), (by decide +kernel)⟩
theorem mX0_endHoldsOf : qMth yX0_endHoldsOf (.code yX0_endHoldsOf cX0_endHoldsOf 3 none) cX0_endHoldsOf 3 none 1 := ⟨rfl, qm 846 (by decide +kernel) rfl, qm 844 (by decide +kernel) rfl, qm 845 (by decide +kernel) rfl, qm 43 (by decide +kernel) rfl, (by decide +kernel), (by decide +kernel)⟩
theorem mX1_count : qMth yX1_count (.code yX1_count cX1_count 1 (some .int)) cX1_count 1 (some .int) 0 := ⟨rfl, qm 772 (by decide +kernel) rfl, qm 770 (by decide +kernel) rfl, qm 771 (by decide +kernel) rfl, qm 47 (by decide +kernel) rfl, (by decide +kernel), (by decide +kernel)⟩
theorem mX1_register : qMth yX1_register (.code yX1_register cX1_register 5 (some .int)) cX1_register 5 (some .int) 3 := ⟨rfl, qm 777 (by decide +kernel) rfl, qm 775 (by decide +kernel) rfl, qm 776 (by decide +kernel) rfl, qm 47 (by decide +kernel) rfl, (by decide +kernel), (by decide +kernel)⟩
theorem mX1_has : qMth yX1_has (.code yX1_has cX1_has 2 (some .boolean)) cX1_has 2 (some .boolean) 1 := ⟨rfl, qm 521 (by decide +kernel) rfl, qm 520 (by decide +kernel) rfl, qm 4 (by decide +kernel) rfl, qm 47 (by decide +kernel) rfl, (by decide +kernel), (by decide +kernel)⟩
theorem mX1_boxOf : qMth yX1_boxOf (.code yX1_boxOf cX1_boxOf 2 (some .int)) cX1_boxOf 2 (some .int) 1 := ⟨rfl, qm 854 (by decide +kernel) rfl, qm 852 (by decide +kernel) rfl, qm 853 (by decide +kernel) rfl, qm 47 (by decide +kernel) rfl, (by decide +kernel), (by decide +kernel)⟩
theorem mX1_hourOf : qMth yX1_hourOf (.code yX1_hourOf cX1_hourOf 2 (some .int)) cX1_hourOf 2 (some .int) 1 := ⟨rfl, qm 517 (by decide +kernel) rfl, qm 515 (by decide +kernel) rfl, qm 516 (by decide +kernel) rfl, qm 47 (by decide +kernel) rfl, (by decide +kernel), (by decide +kernel)⟩
theorem mX1_state : qMth yX1_state (.code yX1_state cX1_state 2 (some .char)) cX1_state 2 (some .char) 1 := ⟨rfl, qm 793 (by decide +kernel) rfl, qm 791 (by decide +kernel) rfl, qm 792 (by decide +kernel) rfl, qm 47 (by decide +kernel) rfl, (by decide +kernel), (by decide +kernel)⟩
theorem mX1_turn : qMth yX1_turn (.code yX1_turn cX1_turn 3 none) cX1_turn 3 none 2 := ⟨rfl, qm 541 (by decide +kernel) rfl, qm 539 (by decide +kernel) rfl, qm 540 (by decide +kernel) rfl, qm 47 (by decide +kernel) rfl, (by decide +kernel), (by decide +kernel)⟩
theorem mX1_bookedFor : qMth yX1_bookedFor (.code yX1_bookedFor cX1_bookedFor 3 (some .int)) cX1_bookedFor 3 (some .int) 1 := ⟨rfl, qm 513 (by decide +kernel) rfl, qm 511 (by decide +kernel) rfl, qm 512 (by decide +kernel) rfl, qm 47 (by decide +kernel) rfl, (by decide +kernel), (by decide +kernel)⟩
theorem mX1_bookedAt : qMth yX1_bookedAt (.code yX1_bookedAt cX1_bookedAt 4 (some .int)) cX1_bookedAt 4 (some .int) 2 := ⟨rfl, qm 767 (by decide +kernel) rfl, qm 765 (by decide +kernel) rfl, qm 766 (by decide +kernel) rfl, qm 47 (by decide +kernel) rfl, (by decide +kernel), (by decide +kernel)⟩
theorem mX1_hasFreeLane : qMth yX1_hasFreeLane (.code yX1_hasFreeLane cX1_hasFreeLane 3 (some .boolean)) cX1_hasFreeLane 3 (some .boolean) 1 := ⟨rfl, qm 832 (by decide +kernel) rfl, qm 830 (by decide +kernel) rfl, qm 831 (by decide +kernel) rfl, qm 47 (by decide +kernel) rfl, (by decide +kernel), (by decide +kernel)⟩
theorem mX1_countIn : qMth yX1_countIn (.code yX1_countIn cX1_countIn 4 (some .int)) cX1_countIn 4 (some .int) 1 := ⟨rfl, qm 798 (by decide +kernel) rfl, qm 796 (by decide +kernel) rfl, qm 797 (by decide +kernel) rfl, qm 47 (by decide +kernel) rfl, (by decide +kernel), (by decide +kernel)⟩
theorem mX2_isEmpty : qMth yX2_isEmpty (.code yX2_isEmpty cX2_isEmpty 1 (some .boolean)) cX2_isEmpty 1 (some .boolean) 0 := ⟨rfl, qm 646 (by decide +kernel) rfl, qm 644 (by decide +kernel) rfl, qm 645 (by decide +kernel) rfl, qm 46 (by decide +kernel) rfl, (by decide +kernel), (by decide +kernel)⟩
theorem mX2_clear : qMth yX2_clear (.code yX2_clear cX2_clear 1 none) cX2_clear 1 none 0 := ⟨rfl, qm 635 (by decide +kernel) rfl, qm 633 (by decide +kernel) rfl, qm 634 (by decide +kernel) rfl, qm 46 (by decide +kernel) rfl, (by decide +kernel), (by decide +kernel)⟩
theorem mX2_add : qMth yX2_add (.code yX2_add cX2_add 4 none) cX2_add 4 none 1 := ⟨rfl, qm 642 (by decide +kernel) rfl, qm 640 (by decide +kernel) rfl, qm 641 (by decide +kernel) rfl, qm 46 (by decide +kernel) rfl, (by decide +kernel), (by decide +kernel)⟩
theorem mX2_takeFirst : qMth yX2_takeFirst (.code yX2_takeFirst cX2_takeFirst 3 (some .long)) cX2_takeFirst 3 (some .long) 0 := ⟨rfl, qm 650 (by decide +kernel) rfl, qm 648 (by decide +kernel) rfl, qm 649 (by decide +kernel) rfl, qm 46 (by decide +kernel) rfl, (by decide +kernel), (by decide +kernel)⟩
theorem mX2_sinkFromTop : qMth yX2_sinkFromTop (.code yX2_sinkFromTop cX2_sinkFromTop 5 none) cX2_sinkFromTop 5 none 1 := ⟨rfl, qm 654 (by decide +kernel) rfl, qm 653 (by decide +kernel) rfl, qm 7 (by decide +kernel) rfl, qm 46 (by decide +kernel) rfl, (by decide +kernel), (by decide +kernel)⟩
theorem mX3_find : qMth yX3_find (.code yX3_find cX3_find 6 (some .boolean)) cX3_find 6 (some .boolean) 1 := ⟨rfl, qm 630 (by decide +kernel) rfl, qm 628 (by decide +kernel) rfl, qm 629 (by decide +kernel) rfl, qm 45 (by decide +kernel) rfl, (by decide +kernel), (by decide +kernel)⟩
theorem mX3_length : qMth yX3_length (.code yX3_length cX3_length 1 (some .int)) cX3_length 1 (some .int) 0 := ⟨rfl, qm 697 (by decide +kernel) rfl, qm 695 (by decide +kernel) rfl, qm 696 (by decide +kernel) rfl, qm 45 (by decide +kernel) rfl, (by decide +kernel), (by decide +kernel)⟩
theorem mX3_boxMoved : qMth yX3_boxMoved (.code yX3_boxMoved cX3_boxMoved 2 (some .int)) cX3_boxMoved 2 (some .int) 1 := ⟨rfl, qm 727 (by decide +kernel) rfl, qm 725 (by decide +kernel) rfl, qm 726 (by decide +kernel) rfl, qm 45 (by decide +kernel) rfl, (by decide +kernel), (by decide +kernel)⟩
theorem mX3_stackReached : qMth yX3_stackReached (.code yX3_stackReached cX3_stackReached 2 (some .int)) cX3_stackReached 2 (some .int) 1 := ⟨rfl, qm 738 (by decide +kernel) rfl, qm 736 (by decide +kernel) rfl, qm 737 (by decide +kernel) rfl, qm 45 (by decide +kernel) rfl, (by decide +kernel), (by decide +kernel)⟩
theorem mX3_lengthByTrying : qMth yX3_lengthByTrying (.code yX3_lengthByTrying cX3_lengthByTrying 2 (some .int)) cX3_lengthByTrying 2 (some .int) 1 := ⟨rfl, qm 708 (by decide +kernel) rfl, qm 706 (by decide +kernel) rfl, qm 707 (by decide +kernel) rfl, qm 45 (by decide +kernel) rfl, (by decide +kernel), (by decide +kernel)⟩
theorem mX3_fewestMoves : qMts yX3_fewestMoves (.code yX3_fewestMoves cX3_fewestMoves 9 (some .int)) cX3_fewestMoves 9 (some .int) 3 := ⟨rfl, qm 711 (by decide +kernel) rfl, qm 710 (by decide +kernel) rfl, qm 45 (by decide +kernel) rfl, (by decide +kernel), (by decide +kernel)⟩
theorem mX3_layOut : qMth yX3_layOut (.code yX3_layOut cX3_layOut 5 none) cX3_layOut 5 none 1 := ⟨rfl, qm 664 (by decide +kernel) rfl, qm 663 (by decide +kernel) rfl, qm 8 (by decide +kernel) rfl, qm 45 (by decide +kernel) rfl, (by decide +kernel), (by decide +kernel)⟩
theorem mX3_addNextMoves : qMth yX3_addNextMoves (.code yX3_addNextMoves cX3_addNextMoves 10 none) cX3_addNextMoves 10 none 3 := ⟨rfl, qm 683 (by decide +kernel) rfl, qm 682 (by decide +kernel) rfl, qm 9 (by decide +kernel) rfl, qm 45 (by decide +kernel) rfl, (by decide +kernel), (by decide +kernel)⟩
theorem mX3_extraNeed : qMts yX3_extraNeed (.code yX3_extraNeed cX3_extraNeed 3 (some .int)) cX3_extraNeed 3 (some .int) 3 := ⟨rfl, qm 688 (by decide +kernel) rfl, qm 687 (by decide +kernel) rfl, qm 45 (by decide +kernel) rfl, (by decide +kernel), (by decide +kernel)⟩
theorem mX3_begunWith : qMts yX3_begunWith (.code yX3_begunWith cX3_begunWith 1 (some .long)) cX3_begunWith 1 (some .long) 1 := ⟨rfl, qm 638 (by decide +kernel) rfl, qm 637 (by decide +kernel) rfl, qm 45 (by decide +kernel) rfl, (by decide +kernel), (by decide +kernel)⟩
theorem mX3_goneOn : qMts yX3_goneOn (.code yX3_goneOn cX3_goneOn 10 (some .long)) cX3_goneOn 10 (some .long) 4 := ⟨rfl, qm 692 (by decide +kernel) rfl, qm 691 (by decide +kernel) rfl, qm 45 (by decide +kernel) rfl, (by decide +kernel), (by decide +kernel)⟩
theorem mX3_needOf : qMts yX3_needOf (.code yX3_needOf cX3_needOf 2 (some .int)) cX3_needOf 2 (some .int) 1 := ⟨rfl, qm 657 (by decide +kernel) rfl, qm 656 (by decide +kernel) rfl, qm 45 (by decide +kernel) rfl, (by decide +kernel), (by decide +kernel)⟩
theorem mX3_lengthOf : qMts yX3_lengthOf (.code yX3_lengthOf cX3_lengthOf 2 (some .int)) cX3_lengthOf 2 (some .int) 1 := ⟨rfl, qm 660 (by decide +kernel) rfl, qm 659 (by decide +kernel) rfl, qm 45 (by decide +kernel) rfl, (by decide +kernel), (by decide +kernel)⟩
theorem mX3_moveOf : qMts yX3_moveOf (.code yX3_moveOf cX3_moveOf 3 (some .int)) cX3_moveOf 3 (some .int) 2 := ⟨rfl, qm 674 (by decide +kernel) rfl, qm 673 (by decide +kernel) rfl, qm 45 (by decide +kernel) rfl, (by decide +kernel), (by decide +kernel)⟩
theorem mX3_shiftOf : qMts yX3_shiftOf (.code yX3_shiftOf cX3_shiftOf 1 (some .int)) cX3_shiftOf 1 (some .int) 1 := ⟨rfl, qm 677 (by decide +kernel) rfl, qm 676 (by decide +kernel) rfl, qm 45 (by decide +kernel) rfl, (by decide +kernel), (by decide +kernel)⟩
theorem mX4_copyFrom : qMth yX4_copyFrom (.code yX4_copyFrom cX4_copyFrom 2 none) cX4_copyFrom 2 none 1 := ⟨rfl, qm 668 (by decide +kernel) rfl, qm 666 (by decide +kernel) rfl, qm 667 (by decide +kernel) rfl, qm 44 (by decide +kernel) rfl, (by decide +kernel), (by decide +kernel)⟩
theorem mX4_openStack : qMth yX4_openStack (.code yX4_openStack cX4_openStack 3 (some .int)) cX4_openStack 3 (some .int) 1 := ⟨rfl, qm 322 (by decide +kernel) rfl, qm 320 (by decide +kernel) rfl, qm 321 (by decide +kernel) rfl, qm 44 (by decide +kernel) rfl, (by decide +kernel), (by decide +kernel)⟩
theorem mX4_stackCount : qMth yX4_stackCount (.code yX4_stackCount cX4_stackCount 1 (some .int)) cX4_stackCount 1 (some .int) 0 := ⟨rfl, qm 302 (by decide +kernel) rfl, qm 300 (by decide +kernel) rfl, qm 301 (by decide +kernel) rfl, qm 44 (by decide +kernel) rfl, (by decide +kernel), (by decide +kernel)⟩
theorem mX4_boxCount : qMth yX4_boxCount (.code yX4_boxCount cX4_boxCount 1 (some .int)) cX4_boxCount 1 (some .int) 0 := ⟨rfl, qm 199 (by decide +kernel) rfl, qm 197 (by decide +kernel) rfl, qm 198 (by decide +kernel) rfl, qm 44 (by decide +kernel) rfl, (by decide +kernel), (by decide +kernel)⟩
theorem mX4_hasStack : qMth yX4_hasStack (.code yX4_hasStack cX4_hasStack 2 (some .boolean)) cX4_hasStack 2 (some .boolean) 1 := ⟨rfl, qm 339 (by decide +kernel) rfl, qm 337 (by decide +kernel) rfl, qm 338 (by decide +kernel) rfl, qm 44 (by decide +kernel) rfl, (by decide +kernel), (by decide +kernel)⟩
theorem mX4_heightOf : qMth yX4_heightOf (.code yX4_heightOf cX4_heightOf 2 (some .int)) cX4_heightOf 2 (some .int) 1 := ⟨rfl, qm 446 (by decide +kernel) rfl, qm 444 (by decide +kernel) rfl, qm 445 (by decide +kernel) rfl, qm 44 (by decide +kernel) rfl, (by decide +kernel), (by decide +kernel)⟩
theorem mX4_isFull : qMth yX4_isFull (.code yX4_isFull cX4_isFull 2 (some .boolean)) cX4_isFull 2 (some .boolean) 1 := ⟨rfl, qm 360 (by decide +kernel) rfl, qm 358 (by decide +kernel) rfl, qm 359 (by decide +kernel) rfl, qm 44 (by decide +kernel) rfl, (by decide +kernel), (by decide +kernel)⟩
theorem mX4_bears : qMth yX4_bears (.code yX4_bears cX4_bears 4 (some .boolean)) cX4_bears 4 (some .boolean) 2 := ⟨rfl, qm 364 (by decide +kernel) rfl, qm 362 (by decide +kernel) rfl, qm 363 (by decide +kernel) rfl, qm 44 (by decide +kernel) rfl, (by decide +kernel), (by decide +kernel)⟩
theorem mX4_stackWith : qMth yX4_stackWith (.code yX4_stackWith cX4_stackWith 2 (some .int)) cX4_stackWith 2 (some .int) 1 := ⟨rfl, qm 207 (by decide +kernel) rfl, qm 205 (by decide +kernel) rfl, qm 206 (by decide +kernel) rfl, qm 44 (by decide +kernel) rfl, (by decide +kernel), (by decide +kernel)⟩
theorem mX4_boxOn : qMth yX4_boxOn (.code yX4_boxOn cX4_boxOn 3 (some .int)) cX4_boxOn 3 (some .int) 2 := ⟨rfl, qm 450 (by decide +kernel) rfl, qm 448 (by decide +kernel) rfl, qm 449 (by decide +kernel) rfl, qm 44 (by decide +kernel) rfl, (by decide +kernel), (by decide +kernel)⟩
theorem mX4_topOf : qMth yX4_topOf (.code yX4_topOf cX4_topOf 2 (some .int)) cX4_topOf 2 (some .int) 1 := ⟨rfl, qm 368 (by decide +kernel) rfl, qm 366 (by decide +kernel) rfl, qm 367 (by decide +kernel) rfl, qm 44 (by decide +kernel) rfl, (by decide +kernel), (by decide +kernel)⟩
theorem mX4_boxesUnder : qMth yX4_boxesUnder (.code yX4_boxesUnder cX4_boxesUnder 4 (some .int)) cX4_boxesUnder 4 (some .int) 1 := ⟨rfl, qm 441 (by decide +kernel) rfl, qm 439 (by decide +kernel) rfl, qm 440 (by decide +kernel) rfl, qm 44 (by decide +kernel) rfl, (by decide +kernel), (by decide +kernel)⟩
theorem mX4_boxesOver : qMth yX4_boxesOver (.code yX4_boxesOver cX4_boxesOver 3 (some .int)) cX4_boxesOver 3 (some .int) 1 := ⟨rfl, qm 461 (by decide +kernel) rfl, qm 459 (by decide +kernel) rfl, qm 460 (by decide +kernel) rfl, qm 44 (by decide +kernel) rfl, (by decide +kernel), (by decide +kernel)⟩
theorem mX4_pinnedOver : qMth yX4_pinnedOver (.code yX4_pinnedOver cX4_pinnedOver 5 (some .int)) cX4_pinnedOver 5 (some .int) 1 := ⟨rfl, qm 578 (by decide +kernel) rfl, qm 576 (by decide +kernel) rfl, qm 577 (by decide +kernel) rfl, qm 44 (by decide +kernel) rfl, (by decide +kernel), (by decide +kernel)⟩
theorem mX4_reasonAgainst : qMth yX4_reasonAgainst (.code yX4_reasonAgainst cX4_reasonAgainst 4 (some .char)) cX4_reasonAgainst 4 (some .char) 2 := ⟨rfl, qm 593 (by decide +kernel) rfl, qm 591 (by decide +kernel) rfl, qm 592 (by decide +kernel) rfl, qm 44 (by decide +kernel) rfl, (by decide +kernel), (by decide +kernel)⟩
theorem mX4_put : qMth yX4_put (.code yX4_put cX4_put 3 none) cX4_put 3 none 2 := ⟨rfl, qm 409 (by decide +kernel) rfl, qm 407 (by decide +kernel) rfl, qm 408 (by decide +kernel) rfl, qm 44 (by decide +kernel) rfl, (by decide +kernel), (by decide +kernel)⟩
theorem mX4_take : qMth yX4_take (.code yX4_take cX4_take 3 none) cX4_take 3 none 1 := ⟨rfl, qm 614 (by decide +kernel) rfl, qm 612 (by decide +kernel) rfl, qm 613 (by decide +kernel) rfl, qm 44 (by decide +kernel) rfl, (by decide +kernel), (by decide +kernel)⟩
theorem mX4_shift : qMth yX4_shift (.code yX4_shift cX4_shift 4 none) cX4_shift 4 none 2 := ⟨rfl, qm 610 (by decide +kernel) rfl, qm 608 (by decide +kernel) rfl, qm 609 (by decide +kernel) rfl, qm 44 (by decide +kernel) rfl, (by decide +kernel), (by decide +kernel)⟩
theorem mX5_addStack : qMth yX5_addStack (.code yX5_addStack cX5_addStack 2 (some .int)) cX5_addStack 2 (some .int) 1 := ⟨rfl, qm 228 (by decide +kernel) rfl, qm 226 (by decide +kernel) rfl, qm 227 (by decide +kernel) rfl, qm 42 (by decide +kernel) rfl, (by decide +kernel), (by decide +kernel)⟩
theorem mX5_addBox : qMth yX5_addBox (.code yX5_addBox cX5_addBox 4 (some .int)) cX5_addBox 4 (some .int) 2 := ⟨rfl, qm 331 (by decide +kernel) rfl, qm 329 (by decide +kernel) rfl, qm 330 (by decide +kernel) rfl, qm 42 (by decide +kernel) rfl, (by decide +kernel), (by decide +kernel)⟩
theorem mX5_boxes : qMth yX5_boxes (.code yX5_boxes cX5_boxes 1 (some .int)) cX5_boxes 1 (some .int) 0 := ⟨rfl, qm 195 (by decide +kernel) rfl, qm 193 (by decide +kernel) rfl, qm 194 (by decide +kernel) rfl, qm 42 (by decide +kernel) rfl, (by decide +kernel), (by decide +kernel)⟩
theorem mX5_isInYard : qMth yX5_isInYard (.code yX5_isInYard cX5_isInYard 2 (some .boolean)) cX5_isInYard 2 (some .boolean) 1 := ⟨rfl, qm 203 (by decide +kernel) rfl, qm 201 (by decide +kernel) rfl, qm 202 (by decide +kernel) rfl, qm 42 (by decide +kernel) rfl, (by decide +kernel), (by decide +kernel)⟩
theorem mX5_weight : qMth yX5_weight (.code yX5_weight cX5_weight 2 (some .int)) cX5_weight 2 (some .int) 1 := ⟨rfl, qm 417 (by decide +kernel) rfl, qm 415 (by decide +kernel) rfl, qm 416 (by decide +kernel) rfl, qm 42 (by decide +kernel) rfl, (by decide +kernel), (by decide +kernel)⟩
theorem mX5_stackOf : qMth yX5_stackOf (.code yX5_stackOf cX5_stackOf 2 (some .int)) cX5_stackOf 2 (some .int) 1 := ⟨rfl, qm 430 (by decide +kernel) rfl, qm 428 (by decide +kernel) rfl, qm 429 (by decide +kernel) rfl, qm 42 (by decide +kernel) rfl, (by decide +kernel), (by decide +kernel)⟩
theorem mX5_level : qMth yX5_level (.code yX5_level cX5_level 2 (some .int)) cX5_level 2 (some .int) 1 := ⟨rfl, qm 437 (by decide +kernel) rfl, qm 435 (by decide +kernel) rfl, qm 436 (by decide +kernel) rfl, qm 42 (by decide +kernel) rfl, (by decide +kernel), (by decide +kernel)⟩
theorem mX5_above : qMth yX5_above (.code yX5_above cX5_above 2 (some .int)) cX5_above 2 (some .int) 1 := ⟨rfl, qm 457 (by decide +kernel) rfl, qm 455 (by decide +kernel) rfl, qm 456 (by decide +kernel) rfl, qm 42 (by decide +kernel) rfl, (by decide +kernel), (by decide +kernel)⟩
theorem mX5_height : qMth yX5_height (.code yX5_height cX5_height 2 (some .int)) cX5_height 2 (some .int) 1 := ⟨rfl, qm 469 (by decide +kernel) rfl, qm 467 (by decide +kernel) rfl, qm 468 (by decide +kernel) rfl, qm 42 (by decide +kernel) rfl, (by decide +kernel), (by decide +kernel)⟩
theorem mX5_boxAt : qMth yX5_boxAt (.code yX5_boxAt cX5_boxAt 4 (some .int)) cX5_boxAt 4 (some .int) 2 := ⟨rfl, qm 478 (by decide +kernel) rfl, qm 476 (by decide +kernel) rfl, qm 477 (by decide +kernel) rfl, qm 42 (by decide +kernel) rfl, (by decide +kernel), (by decide +kernel)⟩
theorem mX5_hold : qMth yX5_hold (.code yX5_hold cX5_hold 4 (some .int)) cX5_hold 4 (some .int) 3 := ⟨rfl, qm 502 (by decide +kernel) rfl, qm 500 (by decide +kernel) rfl, qm 501 (by decide +kernel) rfl, qm 42 (by decide +kernel) rfl, (by decide +kernel), (by decide +kernel)⟩
theorem mX5_release : qMth yX5_release (.code yX5_release cX5_release 3 (some .int)) cX5_release 3 (some .int) 1 := ⟨rfl, qm 548 (by decide +kernel) rfl, qm 546 (by decide +kernel) rfl, qm 547 (by decide +kernel) rfl, qm 42 (by decide +kernel) rfl, (by decide +kernel), (by decide +kernel)⟩
theorem mX5_holdOf : qMth yX5_holdOf (.code yX5_holdOf cX5_holdOf 2 (some .char)) cX5_holdOf 2 (some .char) 1 := ⟨rfl, qm 559 (by decide +kernel) rfl, qm 557 (by decide +kernel) rfl, qm 558 (by decide +kernel) rfl, qm 42 (by decide +kernel) rfl, (by decide +kernel), (by decide +kernel)⟩
theorem mX5_heldUntil : qMth yX5_heldUntil (.code yX5_heldUntil cX5_heldUntil 2 (some .int)) cX5_heldUntil 2 (some .int) 1 := ⟨rfl, qm 567 (by decide +kernel) rfl, qm 565 (by decide +kernel) rfl, qm 566 (by decide +kernel) rfl, qm 42 (by decide +kernel) rfl, (by decide +kernel), (by decide +kernel)⟩
theorem mX5_pinnedAbove : qMth yX5_pinnedAbove (.code yX5_pinnedAbove cX5_pinnedAbove 2 (some .int)) cX5_pinnedAbove 2 (some .int) 1 := ⟨rfl, qm 574 (by decide +kernel) rfl, qm 572 (by decide +kernel) rfl, qm 573 (by decide +kernel) rfl, qm 42 (by decide +kernel) rfl, (by decide +kernel), (by decide +kernel)⟩
theorem mX5_why : qMth yX5_why (.code yX5_why cX5_why 3 (some .char)) cX5_why 3 (some .char) 2 := ⟨rfl, qm 589 (by decide +kernel) rfl, qm 587 (by decide +kernel) rfl, qm 588 (by decide +kernel) rfl, qm 42 (by decide +kernel) rfl, (by decide +kernel), (by decide +kernel)⟩
theorem mX5_move : qMth yX5_move (.code yX5_move cX5_move 3 (some .int)) cX5_move 3 (some .int) 2 := ⟨rfl, qm 601 (by decide +kernel) rfl, qm 599 (by decide +kernel) rfl, qm 600 (by decide +kernel) rfl, qm 42 (by decide +kernel) rfl, (by decide +kernel), (by decide +kernel)⟩
theorem mX5_planLength : qMth yX5_planLength (.code yX5_planLength cX5_planLength 2 (some .int)) cX5_planLength 2 (some .int) 1 := ⟨rfl, qm 622 (by decide +kernel) rfl, qm 620 (by decide +kernel) rfl, qm 621 (by decide +kernel) rfl, qm 42 (by decide +kernel) rfl, (by decide +kernel), (by decide +kernel)⟩
theorem mX5_planByTrying : qMth yX5_planByTrying (.code yX5_planByTrying cX5_planByTrying 3 (some .int)) cX5_planByTrying 3 (some .int) 1 := ⟨rfl, qm 704 (by decide +kernel) rfl, qm 702 (by decide +kernel) rfl, qm 703 (by decide +kernel) rfl, qm 42 (by decide +kernel) rfl, (by decide +kernel), (by decide +kernel)⟩
theorem mX5_planBox : qMth yX5_planBox (.code yX5_planBox cX5_planBox 3 (some .int)) cX5_planBox 3 (some .int) 2 := ⟨rfl, qm 718 (by decide +kernel) rfl, qm 716 (by decide +kernel) rfl, qm 717 (by decide +kernel) rfl, qm 42 (by decide +kernel) rfl, (by decide +kernel), (by decide +kernel)⟩
theorem mX5_planStack : qMth yX5_planStack (.code yX5_planStack cX5_planStack 3 (some .int)) cX5_planStack 3 (some .int) 2 := ⟨rfl, qm 734 (by decide +kernel) rfl, qm 732 (by decide +kernel) rfl, qm 733 (by decide +kernel) rfl, qm 42 (by decide +kernel) rfl, (by decide +kernel), (by decide +kernel)⟩
theorem mX5_dig : qMth yX5_dig (.code yX5_dig cX5_dig 2 (some .int)) cX5_dig 2 (some .int) 1 := ⟨rfl, qm 745 (by decide +kernel) rfl, qm 743 (by decide +kernel) rfl, qm 744 (by decide +kernel) rfl, qm 42 (by decide +kernel) rfl, (by decide +kernel), (by decide +kernel)⟩
theorem mX5_moves : qMth yX5_moves (.code yX5_moves cX5_moves 1 (some .int)) cX5_moves 1 (some .int) 0 := ⟨rfl, qm 211 (by decide +kernel) rfl, qm 209 (by decide +kernel) rfl, qm 210 (by decide +kernel) rfl, qm 42 (by decide +kernel) rfl, (by decide +kernel), (by decide +kernel)⟩
theorem mX5_book : qMth yX5_book (.code yX5_book cX5_book 4 (some .int)) cX5_book 4 (some .int) 3 := ⟨rfl, qm 756 (by decide +kernel) rfl, qm 754 (by decide +kernel) rfl, qm 755 (by decide +kernel) rfl, qm 42 (by decide +kernel) rfl, (by decide +kernel), (by decide +kernel)⟩
theorem mX5_cancel : qMth yX5_cancel (.code yX5_cancel cX5_cancel 2 (some .int)) cX5_cancel 2 (some .int) 1 := ⟨rfl, qm 784 (by decide +kernel) rfl, qm 782 (by decide +kernel) rfl, qm 783 (by decide +kernel) rfl, qm 42 (by decide +kernel) rfl, (by decide +kernel), (by decide +kernel)⟩
theorem mX5_stateOf : qMth yX5_stateOf (.code yX5_stateOf cX5_stateOf 2 (some .char)) cX5_stateOf 2 (some .char) 1 := ⟨rfl, qm 805 (by decide +kernel) rfl, qm 803 (by decide +kernel) rfl, qm 804 (by decide +kernel) rfl, qm 42 (by decide +kernel) rfl, (by decide +kernel), (by decide +kernel)⟩
theorem mX5_appointmentOf : qMth yX5_appointmentOf (.code yX5_appointmentOf cX5_appointmentOf 3 (some .int)) cX5_appointmentOf 3 (some .int) 1 := ⟨rfl, qm 812 (by decide +kernel) rfl, qm 810 (by decide +kernel) rfl, qm 811 (by decide +kernel) rfl, qm 42 (by decide +kernel) rfl, (by decide +kernel), (by decide +kernel)⟩
theorem mX5_inLane : qMth yX5_inLane (.code yX5_inLane cX5_inLane 3 (some .int)) cX5_inLane 3 (some .int) 2 := ⟨rfl, qm 820 (by decide +kernel) rfl, qm 818 (by decide +kernel) rfl, qm 819 (by decide +kernel) rfl, qm 42 (by decide +kernel) rfl, (by decide +kernel), (by decide +kernel)⟩
theorem mX5_firstHour : qMth yX5_firstHour (.code yX5_firstHour cX5_firstHour 3 (some .int)) cX5_firstHour 3 (some .int) 1 := ⟨rfl, qm 828 (by decide +kernel) rfl, qm 826 (by decide +kernel) rfl, qm 827 (by decide +kernel) rfl, qm 42 (by decide +kernel) rfl, (by decide +kernel), (by decide +kernel)⟩
theorem mX5_pass : qMth yX5_pass (.code yX5_pass cX5_pass 5 (some .int)) cX5_pass 5 (some .int) 1 := ⟨rfl, qm 841 (by decide +kernel) rfl, qm 839 (by decide +kernel) rfl, qm 840 (by decide +kernel) rfl, qm 42 (by decide +kernel) rfl, (by decide +kernel), (by decide +kernel)⟩
theorem mX5_now : qMth yX5_now (.code yX5_now cX5_now 1 (some .int)) cX5_now 1 (some .int) 0 := ⟨rfl, qm 215 (by decide +kernel) rfl, qm 213 (by decide +kernel) rfl, qm 214 (by decide +kernel) rfl, qm 42 (by decide +kernel) rfl, (by decide +kernel), (by decide +kernel)⟩
theorem mX5_weightLeft : qMth yX5_weightLeft (.code yX5_weightLeft cX5_weightLeft 1 (some .long)) cX5_weightLeft 1 (some .long) 0 := ⟨rfl, qm 219 (by decide +kernel) rfl, qm 217 (by decide +kernel) rfl, qm 218 (by decide +kernel) rfl, qm 42 (by decide +kernel) rfl, (by decide +kernel), (by decide +kernel)⟩
theorem mX5_doneShare : qMth yX5_doneShare (.code yX5_doneShare cX5_doneShare 3 (some .float)) cX5_doneShare 3 (some .float) 0 := ⟨rfl, qm 862 (by decide +kernel) rfl, qm 860 (by decide +kernel) rfl, qm 861 (by decide +kernel) rfl, qm 42 (by decide +kernel) rfl, (by decide +kernel), (by decide +kernel)⟩
theorem mX5_requireStack : qMth yX5_requireStack (.code yX5_requireStack cX5_requireStack 2 none) cX5_requireStack 2 none 1 := ⟨rfl, qm 335 (by decide +kernel) rfl, qm 334 (by decide +kernel) rfl, qm 1 (by decide +kernel) rfl, qm 42 (by decide +kernel) rfl, (by decide +kernel), (by decide +kernel)⟩
theorem mX5_requireBox : qMth yX5_requireBox (.code yX5_requireBox cX5_requireBox 2 none) cX5_requireBox 2 none 1 := ⟨rfl, qm 421 (by decide +kernel) rfl, qm 420 (by decide +kernel) rfl, qm 2 (by decide +kernel) rfl, qm 42 (by decide +kernel) rfl, (by decide +kernel), (by decide +kernel)⟩
theorem mX5_requireLane : qMth yX5_requireLane (.code yX5_requireLane cX5_requireLane 2 none) cX5_requireLane 2 none 1 := ⟨rfl, qm 760 (by decide +kernel) rfl, qm 759 (by decide +kernel) rfl, qm 12 (by decide +kernel) rfl, qm 42 (by decide +kernel) rfl, (by decide +kernel), (by decide +kernel)⟩
theorem mX5_requireAppointment : qMth yX5_requireAppointment (.code yX5_requireAppointment cX5_requireAppointment 2 none) cX5_requireAppointment 2 none 1 := ⟨rfl, qm 788 (by decide +kernel) rfl, qm 787 (by decide +kernel) rfl, qm 13 (by decide +kernel) rfl, qm 42 (by decide +kernel) rfl, (by decide +kernel), (by decide +kernel)⟩
theorem mX5_requirePlan : qMth yX5_requirePlan (.code yX5_requirePlan cX5_requirePlan 2 none) cX5_requirePlan 2 none 1 := ⟨rfl, qm 626 (by decide +kernel) rfl, qm 625 (by decide +kernel) rfl, qm 6 (by decide +kernel) rfl, qm 42 (by decide +kernel) rfl, (by decide +kernel), (by decide +kernel)⟩
theorem mX5_requirePlannedMove : qMth yX5_requirePlannedMove (.code yX5_requirePlannedMove cX5_requirePlannedMove 2 none) cX5_requirePlannedMove 2 none 1 := ⟨rfl, qm 722 (by decide +kernel) rfl, qm 721 (by decide +kernel) rfl, qm 10 (by decide +kernel) rfl, qm 42 (by decide +kernel) rfl, (by decide +kernel), (by decide +kernel)⟩
theorem mX5_makeMove : qMth yX5_makeMove (.code yX5_makeMove cX5_makeMove 3 none) cX5_makeMove 3 none 2 := ⟨rfl, qm 606 (by decide +kernel) rfl, qm 605 (by decide +kernel) rfl, qm 5 (by decide +kernel) rfl, qm 42 (by decide +kernel) rfl, (by decide +kernel), (by decide +kernel)⟩
theorem mX5_makePlannedMoves : qMth yX5_makePlannedMoves (.code yX5_makePlannedMoves cX5_makePlannedMoves 2 none) cX5_makePlannedMoves 2 none 0 := ⟨rfl, qm 749 (by decide +kernel) rfl, qm 748 (by decide +kernel) rfl, qm 11 (by decide +kernel) rfl, qm 42 (by decide +kernel) rfl, (by decide +kernel), (by decide +kernel)⟩
theorem mX5_giveBackIfHeld : qMth yX5_giveBackIfHeld (.code yX5_giveBackIfHeld cX5_giveBackIfHeld 3 (some .boolean)) cX5_giveBackIfHeld 3 (some .boolean) 1 := ⟨rfl, qm 509 (by decide +kernel) rfl, qm 508 (by decide +kernel) rfl, qm 3 (by decide +kernel) rfl, qm 42 (by decide +kernel) rfl, (by decide +kernel), (by decide +kernel)⟩
theorem mX5_serve : qMth yX5_serve (.code yX5_serve cX5_serve 3 (some .int)) cX5_serve 3 (some .int) 1 := ⟨rfl, qm 850 (by decide +kernel) rfl, qm 849 (by decide +kernel) rfl, qm 14 (by decide +kernel) rfl, qm 42 (by decide +kernel) rfl, (by decide +kernel), (by decide +kernel)⟩
theorem mX6_thrown : qMth yX6_thrown (.code yX6_thrown cX6_thrown 1 (some .int)) cX6_thrown 1 (some .int) 0 := ⟨rfl, qm 932 (by decide +kernel) rfl, qm 930 (by decide +kernel) rfl, qm 931 (by decide +kernel) rfl, qm 48 (by decide +kernel) rfl, (by decide +kernel), (by decide +kernel)⟩
theorem mX6_in : qMts yX6_in (.code yX6_in cX6_in 3 (some .boolean)) cX6_in 3 (some .boolean) 3 := ⟨rfl, qm 939 (by decide +kernel) rfl, qm 938 (by decide +kernel) rfl, qm 48 (by decide +kernel) rfl, (by decide +kernel), (by decide +kernel)⟩
theorem mX6_fails : qMth yX6_fails (.code yX6_fails cX6_fails 2 (some .int)) cX6_fails 2 (some .int) 1 := ⟨rfl, qm 943 (by decide +kernel) rfl, qm 942 (by decide +kernel) rfl, qm 15 (by decide +kernel) rfl, qm 48 (by decide +kernel) rfl, (by decide +kernel), (by decide +kernel)⟩
theorem mX6_isBox : qMth yX6_isBox (.code yX6_isBox cX6_isBox 2 (some .boolean)) cX6_isBox 2 (some .boolean) 1 := ⟨rfl, qm 979 (by decide +kernel) rfl, qm 978 (by decide +kernel) rfl, qm 21 (by decide +kernel) rfl, qm 48 (by decide +kernel) rfl, (by decide +kernel), (by decide +kernel)⟩
theorem mX6_isStack : qMth yX6_isStack (.code yX6_isStack cX6_isStack 2 (some .boolean)) cX6_isStack 2 (some .boolean) 1 := ⟨rfl, qm 951 (by decide +kernel) rfl, qm 950 (by decide +kernel) rfl, qm 16 (by decide +kernel) rfl, qm 48 (by decide +kernel) rfl, (by decide +kernel), (by decide +kernel)⟩
theorem mX6_isPinned : qMth yX6_isPinned (.code yX6_isPinned cX6_isPinned 2 (some .boolean)) cX6_isPinned 2 (some .boolean) 1 := ⟨rfl, qm 1043 (by decide +kernel) rfl, qm 1042 (by decide +kernel) rfl, qm 26 (by decide +kernel) rfl, qm 48 (by decide +kernel) rfl, (by decide +kernel), (by decide +kernel)⟩
theorem mX6_placeOf : qMth yX6_placeOf (.code yX6_placeOf cX6_placeOf 5 (some .int)) cX6_placeOf 5 (some .int) 2 := ⟨rfl, qm 991 (by decide +kernel) rfl, qm 990 (by decide +kernel) rfl, qm 22 (by decide +kernel) rfl, qm 48 (by decide +kernel) rfl, (by decide +kernel), (by decide +kernel)⟩
theorem mX6_levelOf : qMth yX6_levelOf (.code yX6_levelOf cX6_levelOf 5 (some .int)) cX6_levelOf 5 (some .int) 2 := ⟨rfl, qm 999 (by decide +kernel) rfl, qm 998 (by decide +kernel) rfl, qm 23 (by decide +kernel) rfl, qm 48 (by decide +kernel) rfl, (by decide +kernel), (by decide +kernel)⟩
theorem mX6_topOf : qMth yX6_topOf (.code yX6_topOf cX6_topOf 4 (some .int)) cX6_topOf 4 (some .int) 2 := ⟨rfl, qm 959 (by decide +kernel) rfl, qm 958 (by decide +kernel) rfl, qm 18 (by decide +kernel) rfl, qm 48 (by decide +kernel) rfl, (by decide +kernel), (by decide +kernel)⟩
theorem mX6_isTop : qMth yX6_isTop (.code yX6_isTop cX6_isTop 3 (some .boolean)) cX6_isTop 3 (some .boolean) 2 := ⟨rfl, qm 1051 (by decide +kernel) rfl, qm 1050 (by decide +kernel) rfl, qm 27 (by decide +kernel) rfl, qm 48 (by decide +kernel) rfl, (by decide +kernel), (by decide +kernel)⟩
theorem mX6_takes : qMth yX6_takes (.code yX6_takes cX6_takes 4 (some .boolean)) cX6_takes 4 (some .boolean) 3 := ⟨rfl, qm 955 (by decide +kernel) rfl, qm 954 (by decide +kernel) rfl, qm 17 (by decide +kernel) rfl, qm 48 (by decide +kernel) rfl, (by decide +kernel), (by decide +kernel)⟩
theorem mX6_lays : qMth yX6_lays (.code yX6_lays cX6_lays 4 none) cX6_lays 4 none 3 := ⟨rfl, qm 967 (by decide +kernel) rfl, qm 966 (by decide +kernel) rfl, qm 20 (by decide +kernel) rfl, qm 48 (by decide +kernel) rfl, (by decide +kernel), (by decide +kernel)⟩
theorem mX6_canMove : qMth yX6_canMove (.code yX6_canMove cX6_canMove 4 (some .boolean)) cX6_canMove 4 (some .boolean) 3 := ⟨rfl, qm 1059 (by decide +kernel) rfl, qm 1058 (by decide +kernel) rfl, qm 28 (by decide +kernel) rfl, qm 48 (by decide +kernel) rfl, (by decide +kernel), (by decide +kernel)⟩
theorem mX6_moves : qMth yX6_moves (.code yX6_moves cX6_moves 4 none) cX6_moves 4 none 3 := ⟨rfl, qm 1063 (by decide +kernel) rfl, qm 1062 (by decide +kernel) rfl, qm 29 (by decide +kernel) rfl, qm 48 (by decide +kernel) rfl, (by decide +kernel), (by decide +kernel)⟩
theorem mX6_copies : qMth yX6_copies (.code yX6_copies cX6_copies 4 none) cX6_copies 4 none 2 := ⟨rfl, qm 1087 (by decide +kernel) rfl, qm 1086 (by decide +kernel) rfl, qm 34 (by decide +kernel) rfl, qm 48 (by decide +kernel) rfl, (by decide +kernel), (by decide +kernel)⟩
theorem mX6_nextMove : qMth yX6_nextMove (.code yX6_nextMove cX6_nextMove 5 (some .int)) cX6_nextMove 5 (some .int) 3 := ⟨rfl, qm 1083 (by decide +kernel) rfl, qm 1082 (by decide +kernel) rfl, qm 33 (by decide +kernel) rfl, qm 48 (by decide +kernel) rfl, (by decide +kernel), (by decide +kernel)⟩
theorem mX6_finds : qMth yX6_finds (.code yX6_finds cX6_finds 6 (some .boolean)) cX6_finds 6 (some .boolean) 2 := ⟨rfl, qm 1079 (by decide +kernel) rfl, qm 1078 (by decide +kernel) rfl, qm 32 (by decide +kernel) rfl, qm 48 (by decide +kernel) rfl, (by decide +kernel), (by decide +kernel)⟩
theorem mX6_aboveOf : qMth yX6_aboveOf (.code yX6_aboveOf cX6_aboveOf 2 (some .int)) cX6_aboveOf 2 (some .int) 1 := ⟨rfl, qm 1007 (by decide +kernel) rfl, qm 1006 (by decide +kernel) rfl, qm 24 (by decide +kernel) rfl, qm 48 (by decide +kernel) rfl, (by decide +kernel), (by decide +kernel)⟩
theorem mX6_plans : qMth yX6_plans (.code yX6_plans cX6_plans 3 (some .int)) cX6_plans 3 (some .int) 1 := ⟨rfl, qm 1075 (by decide +kernel) rfl, qm 1074 (by decide +kernel) rfl, qm 31 (by decide +kernel) rfl, qm 48 (by decide +kernel) rfl, (by decide +kernel), (by decide +kernel)⟩
theorem mX6_makes : qMth yX6_makes (.code yX6_makes cX6_makes 3 none) cX6_makes 3 none 1 := ⟨rfl, qm 1111 (by decide +kernel) rfl, qm 1110 (by decide +kernel) rfl, qm 36 (by decide +kernel) rfl, qm 48 (by decide +kernel) rfl, (by decide +kernel), (by decide +kernel)⟩
theorem mX6_addStack : qMth yX6_addStack (.code yX6_addStack cX6_addStack 2 (some .int)) cX6_addStack 2 (some .int) 1 := ⟨rfl, qm 936 (by decide +kernel) rfl, qm 934 (by decide +kernel) rfl, qm 935 (by decide +kernel) rfl, qm 48 (by decide +kernel) rfl, (by decide +kernel), (by decide +kernel)⟩
theorem mX6_insideNow : qMth yX6_insideNow (.code yX6_insideNow cX6_insideNow 3 (some .int)) cX6_insideNow 3 (some .int) 0 := ⟨rfl, qm 963 (by decide +kernel) rfl, qm 962 (by decide +kernel) rfl, qm 19 (by decide +kernel) rfl, qm 48 (by decide +kernel) rfl, (by decide +kernel), (by decide +kernel)⟩
theorem mX6_addBox : qMth yX6_addBox (.code yX6_addBox cX6_addBox 3 (some .int)) cX6_addBox 3 (some .int) 2 := ⟨rfl, qm 947 (by decide +kernel) rfl, qm 945 (by decide +kernel) rfl, qm 946 (by decide +kernel) rfl, qm 48 (by decide +kernel) rfl, (by decide +kernel), (by decide +kernel)⟩
theorem mX6_boxes : qMth yX6_boxes (.code yX6_boxes cX6_boxes 1 (some .int)) cX6_boxes 1 (some .int) 0 := ⟨rfl, qm 971 (by decide +kernel) rfl, qm 969 (by decide +kernel) rfl, qm 970 (by decide +kernel) rfl, qm 48 (by decide +kernel) rfl, (by decide +kernel), (by decide +kernel)⟩
theorem mX6_isInYard : qMth yX6_isInYard (.code yX6_isInYard cX6_isInYard 2 (some .boolean)) cX6_isInYard 2 (some .boolean) 1 := ⟨rfl, qm 975 (by decide +kernel) rfl, qm 973 (by decide +kernel) rfl, qm 974 (by decide +kernel) rfl, qm 48 (by decide +kernel) rfl, (by decide +kernel), (by decide +kernel)⟩
theorem mX6_weight : qMth yX6_weight (.code yX6_weight cX6_weight 2 (some .int)) cX6_weight 2 (some .int) 1 := ⟨rfl, qm 983 (by decide +kernel) rfl, qm 981 (by decide +kernel) rfl, qm 982 (by decide +kernel) rfl, qm 48 (by decide +kernel) rfl, (by decide +kernel), (by decide +kernel)⟩
theorem mX6_stackOf : qMth yX6_stackOf (.code yX6_stackOf cX6_stackOf 2 (some .int)) cX6_stackOf 2 (some .int) 1 := ⟨rfl, qm 987 (by decide +kernel) rfl, qm 985 (by decide +kernel) rfl, qm 986 (by decide +kernel) rfl, qm 48 (by decide +kernel) rfl, (by decide +kernel), (by decide +kernel)⟩
theorem mX6_level : qMth yX6_level (.code yX6_level cX6_level 2 (some .int)) cX6_level 2 (some .int) 1 := ⟨rfl, qm 995 (by decide +kernel) rfl, qm 993 (by decide +kernel) rfl, qm 994 (by decide +kernel) rfl, qm 48 (by decide +kernel) rfl, (by decide +kernel), (by decide +kernel)⟩
theorem mX6_above : qMth yX6_above (.code yX6_above cX6_above 2 (some .int)) cX6_above 2 (some .int) 1 := ⟨rfl, qm 1003 (by decide +kernel) rfl, qm 1001 (by decide +kernel) rfl, qm 1002 (by decide +kernel) rfl, qm 48 (by decide +kernel) rfl, (by decide +kernel), (by decide +kernel)⟩
theorem mX6_height : qMth yX6_height (.code yX6_height cX6_height 2 (some .int)) cX6_height 2 (some .int) 1 := ⟨rfl, qm 1011 (by decide +kernel) rfl, qm 1009 (by decide +kernel) rfl, qm 1010 (by decide +kernel) rfl, qm 48 (by decide +kernel) rfl, (by decide +kernel), (by decide +kernel)⟩
theorem mX6_boxAt : qMth yX6_boxAt (.code yX6_boxAt cX6_boxAt 3 (some .int)) cX6_boxAt 3 (some .int) 2 := ⟨rfl, qm 1015 (by decide +kernel) rfl, qm 1013 (by decide +kernel) rfl, qm 1014 (by decide +kernel) rfl, qm 48 (by decide +kernel) rfl, (by decide +kernel), (by decide +kernel)⟩
theorem mX6_appointmentIn : qMth yX6_appointmentIn (.code yX6_appointmentIn cX6_appointmentIn 3 (some .int)) cX6_appointmentIn 3 (some .int) 1 := ⟨rfl, qm 1023 (by decide +kernel) rfl, qm 1022 (by decide +kernel) rfl, qm 25 (by decide +kernel) rfl, qm 48 (by decide +kernel) rfl, (by decide +kernel), (by decide +kernel)⟩
theorem mX6_hold : qMth yX6_hold (.code yX6_hold cX6_hold 5 (some .int)) cX6_hold 5 (some .int) 3 := ⟨rfl, qm 1019 (by decide +kernel) rfl, qm 1017 (by decide +kernel) rfl, qm 1018 (by decide +kernel) rfl, qm 48 (by decide +kernel) rfl, (by decide +kernel), (by decide +kernel)⟩
theorem mX6_release : qMth yX6_release (.code yX6_release cX6_release 2 (some .int)) cX6_release 2 (some .int) 1 := ⟨rfl, qm 1027 (by decide +kernel) rfl, qm 1025 (by decide +kernel) rfl, qm 1026 (by decide +kernel) rfl, qm 48 (by decide +kernel) rfl, (by decide +kernel), (by decide +kernel)⟩
theorem mX6_holdOf : qMth yX6_holdOf (.code yX6_holdOf cX6_holdOf 2 (some .char)) cX6_holdOf 2 (some .char) 1 := ⟨rfl, qm 1031 (by decide +kernel) rfl, qm 1029 (by decide +kernel) rfl, qm 1030 (by decide +kernel) rfl, qm 48 (by decide +kernel) rfl, (by decide +kernel), (by decide +kernel)⟩
theorem mX6_heldUntil : qMth yX6_heldUntil (.code yX6_heldUntil cX6_heldUntil 2 (some .int)) cX6_heldUntil 2 (some .int) 1 := ⟨rfl, qm 1035 (by decide +kernel) rfl, qm 1033 (by decide +kernel) rfl, qm 1034 (by decide +kernel) rfl, qm 48 (by decide +kernel) rfl, (by decide +kernel), (by decide +kernel)⟩
theorem mX6_pinnedAbove : qMth yX6_pinnedAbove (.code yX6_pinnedAbove cX6_pinnedAbove 5 (some .int)) cX6_pinnedAbove 5 (some .int) 1 := ⟨rfl, qm 1039 (by decide +kernel) rfl, qm 1037 (by decide +kernel) rfl, qm 1038 (by decide +kernel) rfl, qm 48 (by decide +kernel) rfl, (by decide +kernel), (by decide +kernel)⟩
theorem mX6_why : qMth yX6_why (.code yX6_why cX6_why 4 (some .char)) cX6_why 4 (some .char) 2 := ⟨rfl, qm 1047 (by decide +kernel) rfl, qm 1045 (by decide +kernel) rfl, qm 1046 (by decide +kernel) rfl, qm 48 (by decide +kernel) rfl, (by decide +kernel), (by decide +kernel)⟩
theorem mX6_move : qMth yX6_move (.code yX6_move cX6_move 3 (some .int)) cX6_move 3 (some .int) 2 := ⟨rfl, qm 1055 (by decide +kernel) rfl, qm 1053 (by decide +kernel) rfl, qm 1054 (by decide +kernel) rfl, qm 48 (by decide +kernel) rfl, (by decide +kernel), (by decide +kernel)⟩
theorem mX6_planned : qMth yX6_planned (.code yX6_planned cX6_planned 3 (some .int)) cX6_planned 3 (some .int) 1 := ⟨rfl, qm 1071 (by decide +kernel) rfl, qm 1070 (by decide +kernel) rfl, qm 30 (by decide +kernel) rfl, qm 48 (by decide +kernel) rfl, (by decide +kernel), (by decide +kernel)⟩
theorem mX6_planLength : qMth yX6_planLength (.code yX6_planLength cX6_planLength 2 (some .int)) cX6_planLength 2 (some .int) 1 := ⟨rfl, qm 1067 (by decide +kernel) rfl, qm 1065 (by decide +kernel) rfl, qm 1066 (by decide +kernel) rfl, qm 48 (by decide +kernel) rfl, (by decide +kernel), (by decide +kernel)⟩
theorem mX6_planByTrying : qMth yX6_planByTrying (.code yX6_planByTrying cX6_planByTrying 2 (some .int)) cX6_planByTrying 2 (some .int) 1 := ⟨rfl, qm 1091 (by decide +kernel) rfl, qm 1089 (by decide +kernel) rfl, qm 1090 (by decide +kernel) rfl, qm 48 (by decide +kernel) rfl, (by decide +kernel), (by decide +kernel)⟩
theorem mX6_plannedAt : qMth yX6_plannedAt (.code yX6_plannedAt cX6_plannedAt 4 (some .int)) cX6_plannedAt 4 (some .int) 2 := ⟨rfl, qm 1099 (by decide +kernel) rfl, qm 1098 (by decide +kernel) rfl, qm 35 (by decide +kernel) rfl, qm 48 (by decide +kernel) rfl, (by decide +kernel), (by decide +kernel)⟩
theorem mX6_planBox : qMth yX6_planBox (.code yX6_planBox cX6_planBox 3 (some .int)) cX6_planBox 3 (some .int) 2 := ⟨rfl, qm 1095 (by decide +kernel) rfl, qm 1093 (by decide +kernel) rfl, qm 1094 (by decide +kernel) rfl, qm 48 (by decide +kernel) rfl, (by decide +kernel), (by decide +kernel)⟩
theorem mX6_planStack : qMth yX6_planStack (.code yX6_planStack cX6_planStack 3 (some .int)) cX6_planStack 3 (some .int) 2 := ⟨rfl, qm 1103 (by decide +kernel) rfl, qm 1101 (by decide +kernel) rfl, qm 1102 (by decide +kernel) rfl, qm 48 (by decide +kernel) rfl, (by decide +kernel), (by decide +kernel)⟩
theorem mX6_dig : qMth yX6_dig (.code yX6_dig cX6_dig 3 (some .int)) cX6_dig 3 (some .int) 1 := ⟨rfl, qm 1107 (by decide +kernel) rfl, qm 1105 (by decide +kernel) rfl, qm 1106 (by decide +kernel) rfl, qm 48 (by decide +kernel) rfl, (by decide +kernel), (by decide +kernel)⟩
theorem mX6_moves_ : qMth yX6_moves_ (.code yX6_moves_ cX6_moves_ 1 (some .int)) cX6_moves_ 1 (some .int) 0 := ⟨rfl, qm 1115 (by decide +kernel) rfl, qm 1113 (by decide +kernel) rfl, qm 1114 (by decide +kernel) rfl, qm 48 (by decide +kernel) rfl, (by decide +kernel), (by decide +kernel)⟩
theorem mX6_bookedIn : qMth yX6_bookedIn (.code yX6_bookedIn cX6_bookedIn 4 (some .int)) cX6_bookedIn 4 (some .int) 2 := ⟨rfl, qm 1127 (by decide +kernel) rfl, qm 1126 (by decide +kernel) rfl, qm 38 (by decide +kernel) rfl, qm 48 (by decide +kernel) rfl, (by decide +kernel), (by decide +kernel)⟩
theorem mX6_isHeldIn : qMth yX6_isHeldIn (.code yX6_isHeldIn cX6_isHeldIn 3 (some .boolean)) cX6_isHeldIn 3 (some .boolean) 2 := ⟨rfl, qm 1123 (by decide +kernel) rfl, qm 1122 (by decide +kernel) rfl, qm 37 (by decide +kernel) rfl, qm 48 (by decide +kernel) rfl, (by decide +kernel), (by decide +kernel)⟩
theorem mX6_book : qMth yX6_book (.code yX6_book cX6_book 4 (some .int)) cX6_book 4 (some .int) 3 := ⟨rfl, qm 1119 (by decide +kernel) rfl, qm 1117 (by decide +kernel) rfl, qm 1118 (by decide +kernel) rfl, qm 48 (by decide +kernel) rfl, (by decide +kernel), (by decide +kernel)⟩
theorem mX6_counted : qMth yX6_counted (.code yX6_counted cX6_counted 4 (some .int)) cX6_counted 4 (some .int) 1 := ⟨rfl, qm 1135 (by decide +kernel) rfl, qm 1134 (by decide +kernel) rfl, qm 39 (by decide +kernel) rfl, qm 48 (by decide +kernel) rfl, (by decide +kernel), (by decide +kernel)⟩
theorem mX6_cancel : qMth yX6_cancel (.code yX6_cancel cX6_cancel 2 (some .int)) cX6_cancel 2 (some .int) 1 := ⟨rfl, qm 1131 (by decide +kernel) rfl, qm 1129 (by decide +kernel) rfl, qm 1130 (by decide +kernel) rfl, qm 48 (by decide +kernel) rfl, (by decide +kernel), (by decide +kernel)⟩
theorem mX6_stateOf : qMth yX6_stateOf (.code yX6_stateOf cX6_stateOf 2 (some .char)) cX6_stateOf 2 (some .char) 1 := ⟨rfl, qm 1139 (by decide +kernel) rfl, qm 1137 (by decide +kernel) rfl, qm 1138 (by decide +kernel) rfl, qm 48 (by decide +kernel) rfl, (by decide +kernel), (by decide +kernel)⟩
theorem mX6_appointmentOf : qMth yX6_appointmentOf (.code yX6_appointmentOf cX6_appointmentOf 3 (some .int)) cX6_appointmentOf 3 (some .int) 1 := ⟨rfl, qm 1143 (by decide +kernel) rfl, qm 1141 (by decide +kernel) rfl, qm 1142 (by decide +kernel) rfl, qm 48 (by decide +kernel) rfl, (by decide +kernel), (by decide +kernel)⟩
theorem mX6_inLane : qMth yX6_inLane (.code yX6_inLane cX6_inLane 3 (some .int)) cX6_inLane 3 (some .int) 2 := ⟨rfl, qm 1147 (by decide +kernel) rfl, qm 1145 (by decide +kernel) rfl, qm 1146 (by decide +kernel) rfl, qm 48 (by decide +kernel) rfl, (by decide +kernel), (by decide +kernel)⟩
theorem mX6_firstHour : qMth yX6_firstHour (.code yX6_firstHour cX6_firstHour 4 (some .int)) cX6_firstHour 4 (some .int) 1 := ⟨rfl, qm 1151 (by decide +kernel) rfl, qm 1149 (by decide +kernel) rfl, qm 1150 (by decide +kernel) rfl, qm 48 (by decide +kernel) rfl, (by decide +kernel), (by decide +kernel)⟩
theorem mX6_leaves : qMth yX6_leaves (.code yX6_leaves cX6_leaves 4 (some .boolean)) cX6_leaves 4 (some .boolean) 1 := ⟨rfl, qm 1159 (by decide +kernel) rfl, qm 1158 (by decide +kernel) rfl, qm 40 (by decide +kernel) rfl, qm 48 (by decide +kernel) rfl, (by decide +kernel), (by decide +kernel)⟩
theorem mX6_pass : qMth yX6_pass (.code yX6_pass cX6_pass 6 (some .int)) cX6_pass 6 (some .int) 1 := ⟨rfl, qm 1155 (by decide +kernel) rfl, qm 1153 (by decide +kernel) rfl, qm 1154 (by decide +kernel) rfl, qm 48 (by decide +kernel) rfl, (by decide +kernel), (by decide +kernel)⟩
theorem mX6_now : qMth yX6_now (.code yX6_now cX6_now 1 (some .int)) cX6_now 1 (some .int) 0 := ⟨rfl, qm 1163 (by decide +kernel) rfl, qm 1161 (by decide +kernel) rfl, qm 1162 (by decide +kernel) rfl, qm 48 (by decide +kernel) rfl, (by decide +kernel), (by decide +kernel)⟩
theorem mX6_weightLeft : qMth yX6_weightLeft (.code yX6_weightLeft cX6_weightLeft 1 (some .long)) cX6_weightLeft 1 (some .long) 0 := ⟨rfl, qm 1167 (by decide +kernel) rfl, qm 1165 (by decide +kernel) rfl, qm 1166 (by decide +kernel) rfl, qm 48 (by decide +kernel) rfl, (by decide +kernel), (by decide +kernel)⟩
theorem mX6_doneShare : qMth yX6_doneShare (.code yX6_doneShare cX6_doneShare 2 (some .float)) cX6_doneShare 2 (some .float) 0 := ⟨rfl, qm 1171 (by decide +kernel) rfl, qm 1169 (by decide +kernel) rfl, qm 1170 (by decide +kernel) rfl, qm 48 (by decide +kernel) rfl, (by decide +kernel), (by decide +kernel)⟩
theorem ml_L_128 : Cond.methodLink RL 128 yX5_boxes ∈ qAW := qm 192 (by decide +kernel) rfl
theorem ml_X5_80 : Cond.methodLink RX5 80 yX4_boxCount ∈ qAW := qm 196 (by decide +kernel) rfl
theorem ml_L_132 : Cond.methodLink RL 132 yX5_isInYard ∈ qAW := qm 200 (by decide +kernel) rfl
theorem ml_X5_95 : Cond.methodLink RX5 95 yX4_stackWith ∈ qAW := qm 204 (by decide +kernel) rfl
theorem ml_L_192 : Cond.methodLink RL 192 yX5_moves ∈ qAW := qm 208 (by decide +kernel) rfl
theorem ml_L_218 : Cond.methodLink RL 218 yX5_now ∈ qAW := qm 212 (by decide +kernel) rfl
theorem ml_L_222 : Cond.methodLink RL 222 yX5_weightLeft ∈ qAW := qm 216 (by decide +kernel) rfl
theorem ml_L_114 : Cond.methodLink RL 114 yL_addStack ∈ qAW := qm 220 (by decide +kernel) rfl
theorem ml_L_7 : Cond.methodLink RL 7 yX5_addStack ∈ qAW := qm 225 (by decide +kernel) rfl
theorem ml_X5_48 : Cond.methodLink RX5 48 yX4_stackCount ∈ qAW := qm 299 (by decide +kernel) rfl
theorem ml_X5_57 : Cond.methodLink RX5 57 yX4_openStack ∈ qAW := qm 319 (by decide +kernel) rfl
theorem ml_L_124 : Cond.methodLink RL 124 yL_addBox ∈ qAW := qm 323 (by decide +kernel) rfl
theorem ml_L_17 : Cond.methodLink RL 17 yX5_addBox ∈ qAW := qm 328 (by decide +kernel) rfl
theorem ml_X5_61 : Cond.methodLink RX5 61 yX5_requireStack ∈ qAW := qm 332 (by decide +kernel) rfl
theorem ml_X5_255 : Cond.methodLink RX5 255 yX4_hasStack ∈ qAW := qm 336 (by decide +kernel) rfl
theorem ml_X5_67 : Cond.methodLink RX5 67 yX4_isFull ∈ qAW := qm 357 (by decide +kernel) rfl
theorem ml_X5_71 : Cond.methodLink RX5 71 yX4_bears ∈ qAW := qm 361 (by decide +kernel) rfl
theorem ml_X4_41 : Cond.methodLink RX4 41 yX4_topOf ∈ qAW := qm 365 (by decide +kernel) rfl
theorem ml_X4_45 : Cond.methodLink RX4 45 yX0_weightOf ∈ qAW := qm 369 (by decide +kernel) rfl
theorem ml_X5_83 : Cond.methodLink RX5 83 yX0_come ∈ qAW := qm 389 (by decide +kernel) rfl
theorem ml_X5_88 : Cond.methodLink RX5 88 yX0_register ∈ qAW := qm 394 (by decide +kernel) rfl
theorem ml_X0_26 : Cond.methodLink RX0 26 yX0_endHold ∈ qAW := qm 398 (by decide +kernel) rfl
theorem ml_X0_42 : Cond.methodLink RX0 42 yX0_putHold ∈ qAW := qm 402 (by decide +kernel) rfl
theorem ml_X5_91 : Cond.methodLink RX5 91 yX4_put ∈ qAW := qm 406 (by decide +kernel) rfl
theorem ml_X4_67 : Cond.methodLink RX4 67 yX4_isFull ∈ qAW := qm 410 (by decide +kernel) rfl
theorem ml_L_137 : Cond.methodLink RL 137 yL_weight ∈ qAW := qm 411 (by decide +kernel) rfl
theorem ml_L_25 : Cond.methodLink RL 25 yX5_weight ∈ qAW := qm 414 (by decide +kernel) rfl
theorem ml_X5_98 : Cond.methodLink RX5 98 yX5_requireBox ∈ qAW := qm 418 (by decide +kernel) rfl
theorem ml_X5_101 : Cond.methodLink RX5 101 yX0_weightOf ∈ qAW := qm 423 (by decide +kernel) rfl
theorem ml_L_140 : Cond.methodLink RL 140 yL_stackOf ∈ qAW := qm 424 (by decide +kernel) rfl
theorem ml_L_28 : Cond.methodLink RL 28 yX5_stackOf ∈ qAW := qm 427 (by decide +kernel) rfl
theorem ml_L_143 : Cond.methodLink RL 143 yL_level ∈ qAW := qm 431 (by decide +kernel) rfl
theorem ml_L_31 : Cond.methodLink RL 31 yX5_level ∈ qAW := qm 434 (by decide +kernel) rfl
theorem ml_X5_104 : Cond.methodLink RX5 104 yX4_boxesUnder ∈ qAW := qm 438 (by decide +kernel) rfl
theorem ml_X4_53 : Cond.methodLink RX4 53 yX4_stackWith ∈ qAW := qm 442 (by decide +kernel) rfl
theorem ml_X4_50 : Cond.methodLink RX4 50 yX4_heightOf ∈ qAW := qm 443 (by decide +kernel) rfl
theorem ml_X4_56 : Cond.methodLink RX4 56 yX4_boxOn ∈ qAW := qm 447 (by decide +kernel) rfl
theorem ml_L_146 : Cond.methodLink RL 146 yL_above ∈ qAW := qm 451 (by decide +kernel) rfl
theorem ml_L_34 : Cond.methodLink RL 34 yX5_above ∈ qAW := qm 454 (by decide +kernel) rfl
theorem ml_X5_107 : Cond.methodLink RX5 107 yX4_boxesOver ∈ qAW := qm 458 (by decide +kernel) rfl
theorem ml_X4_60 : Cond.methodLink RX4 60 yX4_boxesUnder ∈ qAW := qm 462 (by decide +kernel) rfl
theorem ml_L_149 : Cond.methodLink RL 149 yL_height ∈ qAW := qm 463 (by decide +kernel) rfl
theorem ml_L_37 : Cond.methodLink RL 37 yX5_height ∈ qAW := qm 466 (by decide +kernel) rfl
theorem ml_X5_110 : Cond.methodLink RX5 110 yX4_heightOf ∈ qAW := qm 470 (by decide +kernel) rfl
theorem ml_L_152 : Cond.methodLink RL 152 yL_boxAt ∈ qAW := qm 471 (by decide +kernel) rfl
theorem ml_L_40 : Cond.methodLink RL 40 yX5_boxAt ∈ qAW := qm 475 (by decide +kernel) rfl
theorem ml_X5_113 : Cond.methodLink RX5 113 yX4_boxOn ∈ qAW := qm 479 (by decide +kernel) rfl
theorem ml_L_155 : Cond.methodLink RL 155 yL_hold ∈ qAW := qm 496 (by decide +kernel) rfl
theorem ml_L_45 : Cond.methodLink RL 45 yX5_hold ∈ qAW := qm 499 (by decide +kernel) rfl
theorem ml_X5_130 : Cond.methodLink RX5 130 yX0_putHold ∈ qAW := qm 505 (by decide +kernel) rfl
theorem ml_X5_134 : Cond.methodLink RX5 134 yX5_giveBackIfHeld ∈ qAW := qm 506 (by decide +kernel) rfl
theorem ml_X5_200 : Cond.methodLink RX5 200 yX1_bookedFor ∈ qAW := qm 510 (by decide +kernel) rfl
theorem ml_X5_277 : Cond.methodLink RX5 277 yX1_hourOf ∈ qAW := qm 514 (by decide +kernel) rfl
theorem ml_X1_29 : Cond.methodLink RX1 29 yX1_has ∈ qAW := qm 518 (by decide +kernel) rfl
theorem ml_X5_195 : Cond.methodLink RX5 195 yX0_isHeldIn ∈ qAW := qm 522 (by decide +kernel) rfl
theorem ml_X0_34 : Cond.methodLink RX0 34 yX0_isHeld ∈ qAW := qm 526 (by decide +kernel) rfl
theorem ml_X0_30 : Cond.methodLink RX0 30 yX0_holdKind ∈ qAW := qm 530 (by decide +kernel) rfl
theorem ml_X0_38 : Cond.methodLink RX0 38 yX0_holdEnd ∈ qAW := qm 534 (by decide +kernel) rfl
theorem ml_X5_224 : Cond.methodLink RX5 224 yX1_turn ∈ qAW := qm 538 (by decide +kernel) rfl
theorem ml_L_159 : Cond.methodLink RL 159 yL_release ∈ qAW := qm 542 (by decide +kernel) rfl
theorem ml_L_49 : Cond.methodLink RL 49 yX5_release ∈ qAW := qm 545 (by decide +kernel) rfl
theorem ml_X5_137 : Cond.methodLink RX5 137 yX0_isHeld ∈ qAW := qm 549 (by decide +kernel) rfl
theorem ml_X5_142 : Cond.methodLink RX5 142 yX0_holdEnd ∈ qAW := qm 551 (by decide +kernel) rfl
theorem ml_X5_145 : Cond.methodLink RX5 145 yX0_endHold ∈ qAW := qm 552 (by decide +kernel) rfl
theorem ml_L_162 : Cond.methodLink RL 162 yL_holdOf ∈ qAW := qm 553 (by decide +kernel) rfl
theorem ml_L_52 : Cond.methodLink RL 52 yX5_holdOf ∈ qAW := qm 556 (by decide +kernel) rfl
theorem ml_X5_148 : Cond.methodLink RX5 148 yX0_holdKind ∈ qAW := qm 560 (by decide +kernel) rfl
theorem ml_L_165 : Cond.methodLink RL 165 yL_heldUntil ∈ qAW := qm 561 (by decide +kernel) rfl
theorem ml_L_56 : Cond.methodLink RL 56 yX5_heldUntil ∈ qAW := qm 564 (by decide +kernel) rfl
theorem ml_L_168 : Cond.methodLink RL 168 yL_pinnedAbove ∈ qAW := qm 568 (by decide +kernel) rfl
theorem ml_L_59 : Cond.methodLink RL 59 yX5_pinnedAbove ∈ qAW := qm 571 (by decide +kernel) rfl
theorem ml_X5_152 : Cond.methodLink RX5 152 yX4_pinnedOver ∈ qAW := qm 575 (by decide +kernel) rfl
theorem ml_X4_63 : Cond.methodLink RX4 63 yX0_isPinned ∈ qAW := qm 579 (by decide +kernel) rfl
theorem ml_L_171 : Cond.methodLink RL 171 yL_why ∈ qAW := qm 583 (by decide +kernel) rfl
theorem ml_L_62 : Cond.methodLink RL 62 yX5_why ∈ qAW := qm 586 (by decide +kernel) rfl
theorem ml_X5_155 : Cond.methodLink RX5 155 yX4_reasonAgainst ∈ qAW := qm 590 (by decide +kernel) rfl
theorem ml_X4_70 : Cond.methodLink RX4 70 yX4_bears ∈ qAW := qm 594 (by decide +kernel) rfl
theorem ml_L_174 : Cond.methodLink RL 174 yL_move ∈ qAW := qm 595 (by decide +kernel) rfl
theorem ml_L_66 : Cond.methodLink RL 66 yX5_move ∈ qAW := qm 598 (by decide +kernel) rfl
theorem ml_X5_161 : Cond.methodLink RX5 161 yX5_makeMove ∈ qAW := qm 603 (by decide +kernel) rfl
theorem ml_X5_274 : Cond.methodLink RX5 274 yX4_shift ∈ qAW := qm 607 (by decide +kernel) rfl
theorem ml_X4_74 : Cond.methodLink RX4 74 yX4_take ∈ qAW := qm 611 (by decide +kernel) rfl
theorem ml_X4_78 : Cond.methodLink RX4 78 yX4_put ∈ qAW := qm 615 (by decide +kernel) rfl
theorem ml_L_177 : Cond.methodLink RL 177 yL_planLength ∈ qAW := qm 616 (by decide +kernel) rfl
theorem ml_L_69 : Cond.methodLink RL 69 yX5_planLength ∈ qAW := qm 619 (by decide +kernel) rfl
theorem ml_X5_167 : Cond.methodLink RX5 167 yX5_requirePlan ∈ qAW := qm 623 (by decide +kernel) rfl
theorem ml_X5_269 : Cond.methodLink RX5 269 yX3_find ∈ qAW := qm 627 (by decide +kernel) rfl
theorem ml_X3_25 : Cond.methodLink RX3 25 yX4_boxesOver ∈ qAW := qm 631 (by decide +kernel) rfl
theorem ml_X3_31 : Cond.methodLink RX3 31 yX2_clear ∈ qAW := qm 632 (by decide +kernel) rfl
theorem ml_X3_34 : Cond.methodLink RX3 34 yX3_begunWith ∈ qAW := qm 636 (by decide +kernel) rfl
theorem ml_X3_38 : Cond.methodLink RX3 38 yX2_add ∈ qAW := qm 639 (by decide +kernel) rfl
theorem ml_X3_42 : Cond.methodLink RX3 42 yX2_isEmpty ∈ qAW := qm 643 (by decide +kernel) rfl
theorem ml_X3_46 : Cond.methodLink RX3 46 yX2_takeFirst ∈ qAW := qm 647 (by decide +kernel) rfl
theorem ml_X2_17 : Cond.methodLink RX2 17 yX2_sinkFromTop ∈ qAW := qm 651 (by decide +kernel) rfl
theorem ml_X3_50 : Cond.methodLink RX3 50 yX3_needOf ∈ qAW := qm 655 (by decide +kernel) rfl
theorem ml_X3_54 : Cond.methodLink RX3 54 yX3_lengthOf ∈ qAW := qm 658 (by decide +kernel) rfl
theorem ml_X3_61 : Cond.methodLink RX3 61 yX3_layOut ∈ qAW := qm 661 (by decide +kernel) rfl
theorem ml_X3_72 : Cond.methodLink RX3 72 yX4_copyFrom ∈ qAW := qm 665 (by decide +kernel) rfl
theorem ml_X3_68 : Cond.methodLink RX3 68 yX3_moveOf ∈ qAW := qm 672 (by decide +kernel) rfl
theorem ml_X3_106 : Cond.methodLink RX3 106 yX3_shiftOf ∈ qAW := qm 675 (by decide +kernel) rfl
theorem ml_X3_95 : Cond.methodLink RX3 95 yX4_stackWith ∈ qAW := qm 678 (by decide +kernel) rfl
theorem ml_X3_91 : Cond.methodLink RX3 91 yX4_shift ∈ qAW := qm 679 (by decide +kernel) rfl
theorem ml_X3_64 : Cond.methodLink RX3 64 yX3_addNextMoves ∈ qAW := qm 680 (by decide +kernel) rfl
theorem ml_X3_80 : Cond.methodLink RX3 80 yX4_stackCount ∈ qAW := qm 684 (by decide +kernel) rfl
theorem ml_X3_84 : Cond.methodLink RX3 84 yX4_topOf ∈ qAW := qm 685 (by decide +kernel) rfl
theorem ml_X3_98 : Cond.methodLink RX3 98 yX3_extraNeed ∈ qAW := qm 686 (by decide +kernel) rfl
theorem ml_X3_87 : Cond.methodLink RX3 87 yX4_reasonAgainst ∈ qAW := qm 689 (by decide +kernel) rfl
theorem ml_X3_102 : Cond.methodLink RX3 102 yX3_goneOn ∈ qAW := qm 690 (by decide +kernel) rfl
theorem ml_X5_170 : Cond.methodLink RX5 170 yX3_length ∈ qAW := qm 694 (by decide +kernel) rfl
theorem ml_L_180 : Cond.methodLink RL 180 yL_planByTrying ∈ qAW := qm 698 (by decide +kernel) rfl
theorem ml_L_72 : Cond.methodLink RL 72 yX5_planByTrying ∈ qAW := qm 701 (by decide +kernel) rfl
theorem ml_X5_173 : Cond.methodLink RX5 173 yX3_lengthByTrying ∈ qAW := qm 705 (by decide +kernel) rfl
theorem ml_X3_76 : Cond.methodLink RX3 76 yX3_fewestMoves ∈ qAW := qm 709 (by decide +kernel) rfl
theorem ml_L_183 : Cond.methodLink RL 183 yL_planBox ∈ qAW := qm 712 (by decide +kernel) rfl
theorem ml_L_75 : Cond.methodLink RL 75 yX5_planBox ∈ qAW := qm 715 (by decide +kernel) rfl
theorem ml_X5_178 : Cond.methodLink RX5 178 yX5_requirePlannedMove ∈ qAW := qm 719 (by decide +kernel) rfl
theorem ml_X5_181 : Cond.methodLink RX5 181 yX3_boxMoved ∈ qAW := qm 724 (by decide +kernel) rfl
theorem ml_L_186 : Cond.methodLink RL 186 yL_planStack ∈ qAW := qm 728 (by decide +kernel) rfl
theorem ml_L_78 : Cond.methodLink RL 78 yX5_planStack ∈ qAW := qm 731 (by decide +kernel) rfl
theorem ml_X5_184 : Cond.methodLink RX5 184 yX3_stackReached ∈ qAW := qm 735 (by decide +kernel) rfl
theorem ml_L_189 : Cond.methodLink RL 189 yL_dig ∈ qAW := qm 739 (by decide +kernel) rfl
theorem ml_L_81 : Cond.methodLink RL 81 yX5_dig ∈ qAW := qm 742 (by decide +kernel) rfl
theorem ml_X5_187 : Cond.methodLink RX5 187 yX5_makePlannedMoves ∈ qAW := qm 746 (by decide +kernel) rfl
theorem ml_L_196 : Cond.methodLink RL 196 yL_book ∈ qAW := qm 750 (by decide +kernel) rfl
theorem ml_L_84 : Cond.methodLink RL 84 yX5_book ∈ qAW := qm 753 (by decide +kernel) rfl
theorem ml_X5_190 : Cond.methodLink RX5 190 yX5_requireLane ∈ qAW := qm 757 (by decide +kernel) rfl
theorem ml_X5_203 : Cond.methodLink RX5 203 yX1_bookedAt ∈ qAW := qm 764 (by decide +kernel) rfl
theorem ml_X5_208 : Cond.methodLink RX5 208 yX1_count ∈ qAW := qm 769 (by decide +kernel) rfl
theorem ml_X5_213 : Cond.methodLink RX5 213 yX1_register ∈ qAW := qm 774 (by decide +kernel) rfl
theorem ml_L_200 : Cond.methodLink RL 200 yL_cancel ∈ qAW := qm 778 (by decide +kernel) rfl
theorem ml_L_88 : Cond.methodLink RL 88 yX5_cancel ∈ qAW := qm 781 (by decide +kernel) rfl
theorem ml_X5_216 : Cond.methodLink RX5 216 yX5_requireAppointment ∈ qAW := qm 785 (by decide +kernel) rfl
theorem ml_X5_219 : Cond.methodLink RX5 219 yX1_state ∈ qAW := qm 790 (by decide +kernel) rfl
theorem ml_X5_228 : Cond.methodLink RX5 228 yX1_countIn ∈ qAW := qm 795 (by decide +kernel) rfl
theorem ml_L_203 : Cond.methodLink RL 203 yL_stateOf ∈ qAW := qm 799 (by decide +kernel) rfl
theorem ml_L_91 : Cond.methodLink RL 91 yX5_stateOf ∈ qAW := qm 802 (by decide +kernel) rfl
theorem ml_L_206 : Cond.methodLink RL 206 yL_appointmentOf ∈ qAW := qm 806 (by decide +kernel) rfl
theorem ml_L_94 : Cond.methodLink RL 94 yX5_appointmentOf ∈ qAW := qm 809 (by decide +kernel) rfl
theorem ml_L_209 : Cond.methodLink RL 209 yL_inLane ∈ qAW := qm 814 (by decide +kernel) rfl
theorem ml_L_97 : Cond.methodLink RL 97 yX5_inLane ∈ qAW := qm 817 (by decide +kernel) rfl
theorem ml_L_212 : Cond.methodLink RL 212 yL_firstHour ∈ qAW := qm 822 (by decide +kernel) rfl
theorem ml_L_100 : Cond.methodLink RL 100 yX5_firstHour ∈ qAW := qm 825 (by decide +kernel) rfl
theorem ml_X5_236 : Cond.methodLink RX5 236 yX1_hasFreeLane ∈ qAW := qm 829 (by decide +kernel) rfl
theorem ml_X1_33 : Cond.methodLink RX1 33 yX1_bookedAt ∈ qAW := qm 833 (by decide +kernel) rfl
theorem ml_L_215 : Cond.methodLink RL 215 yL_pass ∈ qAW := qm 835 (by decide +kernel) rfl
theorem ml_L_103 : Cond.methodLink RL 103 yX5_pass ∈ qAW := qm 838 (by decide +kernel) rfl
theorem ml_X5_243 : Cond.methodLink RX5 243 yX0_endHoldsOf ∈ qAW := qm 843 (by decide +kernel) rfl
theorem ml_X5_246 : Cond.methodLink RX5 246 yX5_serve ∈ qAW := qm 847 (by decide +kernel) rfl
theorem ml_X5_280 : Cond.methodLink RX5 280 yX1_boxOf ∈ qAW := qm 851 (by decide +kernel) rfl
theorem ml_X5_283 : Cond.methodLink RX5 283 yX4_take ∈ qAW := qm 855 (by decide +kernel) rfl
theorem ml_L_227 : Cond.methodLink RL 227 yL_doneShare ∈ qAW := qm 856 (by decide +kernel) rfl
theorem ml_L_106 : Cond.methodLink RL 106 yX5_doneShare ∈ qAW := qm 859 (by decide +kernel) rfl
theorem ml_L_120 : Cond.methodLink RL 120 yX6_thrown ∈ qAW := qm 929 (by decide +kernel) rfl
theorem ml_L_119 : Cond.methodLink RL 119 yX6_addStack ∈ qAW := qm 933 (by decide +kernel) rfl
theorem ml_X6_55 : Cond.methodLink RX6 55 yX6_in ∈ qAW := qm 937 (by decide +kernel) rfl
theorem ml_X6_110 : Cond.methodLink RX6 110 yX6_fails ∈ qAW := qm 940 (by decide +kernel) rfl
theorem ml_L_127 : Cond.methodLink RL 127 yX6_addBox ∈ qAW := qm 944 (by decide +kernel) rfl
theorem ml_X6_113 : Cond.methodLink RX6 113 yX6_isStack ∈ qAW := qm 948 (by decide +kernel) rfl
theorem ml_X6_77 : Cond.methodLink RX6 77 yX6_takes ∈ qAW := qm 952 (by decide +kernel) rfl
theorem ml_X6_66 : Cond.methodLink RX6 66 yX6_topOf ∈ qAW := qm 956 (by decide +kernel) rfl
theorem ml_X6_116 : Cond.methodLink RX6 116 yX6_insideNow ∈ qAW := qm 960 (by decide +kernel) rfl
theorem ml_X6_80 : Cond.methodLink RX6 80 yX6_lays ∈ qAW := qm 964 (by decide +kernel) rfl
theorem ml_L_131 : Cond.methodLink RL 131 yX6_boxes ∈ qAW := qm 968 (by decide +kernel) rfl
theorem ml_L_136 : Cond.methodLink RL 136 yX6_isInYard ∈ qAW := qm 972 (by decide +kernel) rfl
theorem ml_X6_120 : Cond.methodLink RX6 120 yX6_isBox ∈ qAW := qm 976 (by decide +kernel) rfl
theorem ml_L_139 : Cond.methodLink RL 139 yX6_weight ∈ qAW := qm 980 (by decide +kernel) rfl
theorem ml_L_142 : Cond.methodLink RL 142 yX6_stackOf ∈ qAW := qm 984 (by decide +kernel) rfl
theorem ml_X6_62 : Cond.methodLink RX6 62 yX6_placeOf ∈ qAW := qm 988 (by decide +kernel) rfl
theorem ml_L_145 : Cond.methodLink RL 145 yX6_level ∈ qAW := qm 992 (by decide +kernel) rfl
theorem ml_X6_98 : Cond.methodLink RX6 98 yX6_levelOf ∈ qAW := qm 996 (by decide +kernel) rfl
theorem ml_L_148 : Cond.methodLink RL 148 yX6_above ∈ qAW := qm 1000 (by decide +kernel) rfl
theorem ml_X6_101 : Cond.methodLink RX6 101 yX6_aboveOf ∈ qAW := qm 1004 (by decide +kernel) rfl
theorem ml_L_151 : Cond.methodLink RL 151 yX6_height ∈ qAW := qm 1008 (by decide +kernel) rfl
theorem ml_L_154 : Cond.methodLink RL 154 yX6_boxAt ∈ qAW := qm 1012 (by decide +kernel) rfl
theorem ml_L_158 : Cond.methodLink RL 158 yX6_hold ∈ qAW := qm 1016 (by decide +kernel) rfl
theorem ml_X6_129 : Cond.methodLink RX6 129 yX6_appointmentIn ∈ qAW := qm 1020 (by decide +kernel) rfl
theorem ml_L_161 : Cond.methodLink RL 161 yX6_release ∈ qAW := qm 1024 (by decide +kernel) rfl
theorem ml_L_164 : Cond.methodLink RL 164 yX6_holdOf ∈ qAW := qm 1028 (by decide +kernel) rfl
theorem ml_L_167 : Cond.methodLink RL 167 yX6_heldUntil ∈ qAW := qm 1032 (by decide +kernel) rfl
theorem ml_L_170 : Cond.methodLink RL 170 yX6_pinnedAbove ∈ qAW := qm 1036 (by decide +kernel) rfl
theorem ml_X6_73 : Cond.methodLink RX6 73 yX6_isPinned ∈ qAW := qm 1040 (by decide +kernel) rfl
theorem ml_L_173 : Cond.methodLink RL 173 yX6_why ∈ qAW := qm 1044 (by decide +kernel) rfl
theorem ml_X6_69 : Cond.methodLink RX6 69 yX6_isTop ∈ qAW := qm 1048 (by decide +kernel) rfl
theorem ml_L_176 : Cond.methodLink RL 176 yX6_move ∈ qAW := qm 1052 (by decide +kernel) rfl
theorem ml_X6_84 : Cond.methodLink RX6 84 yX6_canMove ∈ qAW := qm 1056 (by decide +kernel) rfl
theorem ml_X6_95 : Cond.methodLink RX6 95 yX6_moves ∈ qAW := qm 1060 (by decide +kernel) rfl
theorem ml_L_179 : Cond.methodLink RL 179 yX6_planLength ∈ qAW := qm 1064 (by decide +kernel) rfl
theorem ml_X6_135 : Cond.methodLink RX6 135 yX6_planned ∈ qAW := qm 1068 (by decide +kernel) rfl
theorem ml_X6_132 : Cond.methodLink RX6 132 yX6_plans ∈ qAW := qm 1072 (by decide +kernel) rfl
theorem ml_X6_105 : Cond.methodLink RX6 105 yX6_finds ∈ qAW := qm 1076 (by decide +kernel) rfl
theorem ml_X6_87 : Cond.methodLink RX6 87 yX6_nextMove ∈ qAW := qm 1080 (by decide +kernel) rfl
theorem ml_X6_91 : Cond.methodLink RX6 91 yX6_copies ∈ qAW := qm 1084 (by decide +kernel) rfl
theorem ml_L_182 : Cond.methodLink RL 182 yX6_planByTrying ∈ qAW := qm 1088 (by decide +kernel) rfl
theorem ml_L_185 : Cond.methodLink RL 185 yX6_planBox ∈ qAW := qm 1092 (by decide +kernel) rfl
theorem ml_X6_138 : Cond.methodLink RX6 138 yX6_plannedAt ∈ qAW := qm 1096 (by decide +kernel) rfl
theorem ml_L_188 : Cond.methodLink RL 188 yX6_planStack ∈ qAW := qm 1100 (by decide +kernel) rfl
theorem ml_L_191 : Cond.methodLink RL 191 yX6_dig ∈ qAW := qm 1104 (by decide +kernel) rfl
theorem ml_X6_141 : Cond.methodLink RX6 141 yX6_makes ∈ qAW := qm 1108 (by decide +kernel) rfl
theorem ml_L_195 : Cond.methodLink RL 195 yX6_moves_ ∈ qAW := qm 1112 (by decide +kernel) rfl
theorem ml_L_199 : Cond.methodLink RL 199 yX6_book ∈ qAW := qm 1116 (by decide +kernel) rfl
theorem ml_X6_145 : Cond.methodLink RX6 145 yX6_isHeldIn ∈ qAW := qm 1120 (by decide +kernel) rfl
theorem ml_X6_148 : Cond.methodLink RX6 148 yX6_bookedIn ∈ qAW := qm 1124 (by decide +kernel) rfl
theorem ml_L_202 : Cond.methodLink RL 202 yX6_cancel ∈ qAW := qm 1128 (by decide +kernel) rfl
theorem ml_X6_151 : Cond.methodLink RX6 151 yX6_counted ∈ qAW := qm 1132 (by decide +kernel) rfl
theorem ml_L_205 : Cond.methodLink RL 205 yX6_stateOf ∈ qAW := qm 1136 (by decide +kernel) rfl
theorem ml_L_208 : Cond.methodLink RL 208 yX6_appointmentOf ∈ qAW := qm 1140 (by decide +kernel) rfl
theorem ml_L_211 : Cond.methodLink RL 211 yX6_inLane ∈ qAW := qm 1144 (by decide +kernel) rfl
theorem ml_L_214 : Cond.methodLink RL 214 yX6_firstHour ∈ qAW := qm 1148 (by decide +kernel) rfl
theorem ml_L_217 : Cond.methodLink RL 217 yX6_pass ∈ qAW := qm 1152 (by decide +kernel) rfl
theorem ml_X6_159 : Cond.methodLink RX6 159 yX6_leaves ∈ qAW := qm 1156 (by decide +kernel) rfl
theorem ml_L_221 : Cond.methodLink RL 221 yX6_now ∈ qAW := qm 1160 (by decide +kernel) rfl
theorem ml_L_226 : Cond.methodLink RL 226 yX6_weightLeft ∈ qAW := qm 1164 (by decide +kernel) rfl
theorem ml_L_230 : Cond.methodLink RL 230 yX6_doneShare ∈ qAW := qm 1168 (by decide +kernel) rfl
theorem fl_X0_9 : Cond.fieldLink RX0 9 (TX0 0).1 (TX0 0).2.1 (TX0 0).2.2.1 ∈ qAW := qm 72 (by decide +kernel) rfl
theorem fl_X0_15 : Cond.fieldLink RX0 15 (TX0 1).1 (TX0 1).2.1 (TX0 1).2.2.1 ∈ qAW := qm 73 (by decide +kernel) rfl
theorem fl_X0_19 : Cond.fieldLink RX0 19 (TX0 2).1 (TX0 2).2.1 (TX0 2).2.2.1 ∈ qAW := qm 74 (by decide +kernel) rfl
theorem fl_X0_22 : Cond.fieldLink RX0 22 (TX0 3).1 (TX0 3).2.1 (TX0 3).2.2.1 ∈ qAW := qm 75 (by decide +kernel) rfl
theorem fl_X4_24 : Cond.fieldLink RX4 24 (TX4 0).1 (TX4 0).2.1 (TX4 0).2.2.1 ∈ qAW := qm 93 (by decide +kernel) rfl
theorem fl_X4_9 : Cond.fieldLink RX4 9 (TX4 1).1 (TX4 1).2.1 (TX4 1).2.2.1 ∈ qAW := qm 94 (by decide +kernel) rfl
theorem fl_X4_15 : Cond.fieldLink RX4 15 (TX4 2).1 (TX4 2).2.1 (TX4 2).2.2.1 ∈ qAW := qm 95 (by decide +kernel) rfl
theorem fl_X4_18 : Cond.fieldLink RX4 18 (TX4 3).1 (TX4 3).2.1 (TX4 3).2.2.1 ∈ qAW := qm 96 (by decide +kernel) rfl
theorem fl_X4_21 : Cond.fieldLink RX4 21 (TX4 4).1 (TX4 4).2.1 (TX4 4).2.2.1 ∈ qAW := qm 97 (by decide +kernel) rfl
theorem fl_X4_34 : Cond.fieldLink RX4 34 (TX4 5).1 (TX4 5).2.1 (TX4 5).2.2.1 ∈ qAW := qm 98 (by decide +kernel) rfl
theorem fl_X4_38 : Cond.fieldLink RX4 38 (TX4 6).1 (TX4 6).2.1 (TX4 6).2.2.1 ∈ qAW := qm 99 (by decide +kernel) rfl
theorem fl_X2_9 : Cond.fieldLink RX2 9 (TX2 0).1 (TX2 0).2.1 (TX2 0).2.2.1 ∈ qAW := qm 127 (by decide +kernel) rfl
theorem fl_X2_13 : Cond.fieldLink RX2 13 (TX2 1).1 (TX2 1).2.1 (TX2 1).2.2.1 ∈ qAW := qm 128 (by decide +kernel) rfl
theorem fl_X3_18 : Cond.fieldLink RX3 18 (TX3 0).1 (TX3 0).2.1 (TX3 0).2.2.1 ∈ qAW := qm 135 (by decide +kernel) rfl
theorem fl_X3_22 : Cond.fieldLink RX3 22 (TX3 1).1 (TX3 1).2.1 (TX3 1).2.2.1 ∈ qAW := qm 136 (by decide +kernel) rfl
theorem fl_X3_14 : Cond.fieldLink RX3 14 (TX3 2).1 (TX3 2).2.1 (TX3 2).2.2.1 ∈ qAW := qm 137 (by decide +kernel) rfl
theorem fl_X3_57 : Cond.fieldLink RX3 57 (TX3 3).1 (TX3 3).2.1 (TX3 3).2.2.1 ∈ qAW := qm 138 (by decide +kernel) rfl
theorem fl_X1_9 : Cond.fieldLink RX1 9 (TX1 0).1 (TX1 0).2.1 (TX1 0).2.2.1 ∈ qAW := qm 154 (by decide +kernel) rfl
theorem fl_X1_15 : Cond.fieldLink RX1 15 (TX1 1).1 (TX1 1).2.1 (TX1 1).2.2.1 ∈ qAW := qm 155 (by decide +kernel) rfl
theorem fl_X1_18 : Cond.fieldLink RX1 18 (TX1 2).1 (TX1 2).2.1 (TX1 2).2.2.1 ∈ qAW := qm 156 (by decide +kernel) rfl
theorem fl_X1_21 : Cond.fieldLink RX1 21 (TX1 3).1 (TX1 3).2.1 (TX1 3).2.2.1 ∈ qAW := qm 157 (by decide +kernel) rfl
theorem fl_X1_25 : Cond.fieldLink RX1 25 (TX1 4).1 (TX1 4).2.1 (TX1 4).2.2.1 ∈ qAW := qm 158 (by decide +kernel) rfl
theorem fl_X5_15 : Cond.fieldLink RX5 15 (TX5 0).1 (TX5 0).2.1 (TX5 0).2.2.1 ∈ qAW := qm 170 (by decide +kernel) rfl
theorem fl_X5_21 : Cond.fieldLink RX5 21 (TX5 1).1 (TX5 1).2.1 (TX5 1).2.2.1 ∈ qAW := qm 171 (by decide +kernel) rfl
theorem fl_X5_30 : Cond.fieldLink RX5 30 (TX5 2).1 (TX5 2).2.1 (TX5 2).2.2.1 ∈ qAW := qm 172 (by decide +kernel) rfl
theorem fl_X5_37 : Cond.fieldLink RX5 37 (TX5 3).1 (TX5 3).2.1 (TX5 3).2.2.1 ∈ qAW := qm 173 (by decide +kernel) rfl
theorem fl_X5_124 : Cond.fieldLink RX5 124 (TX5 4).1 (TX5 4).2.1 (TX5 4).2.2.1 ∈ qAW := qm 174 (by decide +kernel) rfl
theorem fl_X5_164 : Cond.fieldLink RX5 164 (TX5 5).1 (TX5 5).2.1 (TX5 5).2.2.1 ∈ qAW := qm 175 (by decide +kernel) rfl
theorem fl_X5_249 : Cond.fieldLink RX5 249 (TX5 6).1 (TX5 6).2.1 (TX5 6).2.2.1 ∈ qAW := qm 176 (by decide +kernel) rfl
theorem fl_X6_48 : Cond.fieldLink RX6 48 (TX6 0).1 (TX6 0).2.1 (TX6 0).2.2.1 ∈ qAW := qm 870 (by decide +kernel) rfl
theorem fl_X6_126 : Cond.fieldLink RX6 126 (TX6 1).1 (TX6 1).2.1 (TX6 1).2.2.1 ∈ qAW := qm 871 (by decide +kernel) rfl
theorem fl_X6_59 : Cond.fieldLink RX6 59 (TX6 2).1 (TX6 2).2.1 (TX6 2).2.2.1 ∈ qAW := qm 872 (by decide +kernel) rfl
theorem fl_X6_7 : Cond.fieldLink RX6 7 (TX6 3).1 (TX6 3).2.1 (TX6 3).2.2.1 ∈ qAW := qm 873 (by decide +kernel) rfl
theorem fl_X6_52 : Cond.fieldLink RX6 52 (TX6 4).1 (TX6 4).2.1 (TX6 4).2.2.1 ∈ qAW := qm 874 (by decide +kernel) rfl
theorem fl_X6_13 : Cond.fieldLink RX6 13 (TX6 5).1 (TX6 5).2.1 (TX6 5).2.2.1 ∈ qAW := qm 875 (by decide +kernel) rfl
theorem fl_X6_16 : Cond.fieldLink RX6 16 (TX6 6).1 (TX6 6).2.1 (TX6 6).2.2.1 ∈ qAW := qm 876 (by decide +kernel) rfl
theorem fl_X6_20 : Cond.fieldLink RX6 20 (TX6 7).1 (TX6 7).2.1 (TX6 7).2.2.1 ∈ qAW := qm 877 (by decide +kernel) rfl
theorem fl_X6_24 : Cond.fieldLink RX6 24 (TX6 8).1 (TX6 8).2.1 (TX6 8).2.2.1 ∈ qAW := qm 878 (by decide +kernel) rfl
theorem fl_X6_27 : Cond.fieldLink RX6 27 (TX6 9).1 (TX6 9).2.1 (TX6 9).2.2.1 ∈ qAW := qm 879 (by decide +kernel) rfl
theorem fl_X6_30 : Cond.fieldLink RX6 30 (TX6 10).1 (TX6 10).2.1 (TX6 10).2.2.1 ∈ qAW := qm 880 (by decide +kernel) rfl
theorem fl_X6_33 : Cond.fieldLink RX6 33 (TX6 11).1 (TX6 11).2.1 (TX6 11).2.2.1 ∈ qAW := qm 881 (by decide +kernel) rfl
theorem fl_X6_108 : Cond.fieldLink RX6 108 (TX6 12).1 (TX6 12).2.1 (TX6 12).2.2.1 ∈ qAW := qm 882 (by decide +kernel) rfl
theorem fl_X6_123 : Cond.fieldLink RX6 123 (TX6 13).1 (TX6 13).2.1 (TX6 13).2.2.1 ∈ qAW := qm 883 (by decide +kernel) rfl
theorem fl_X6_36 : Cond.fieldLink RX6 36 (TX6 14).1 (TX6 14).2.1 (TX6 14).2.2.1 ∈ qAW := qm 884 (by decide +kernel) rfl
theorem fl_X6_39 : Cond.fieldLink RX6 39 (TX6 15).1 (TX6 15).2.1 (TX6 15).2.2.1 ∈ qAW := qm 885 (by decide +kernel) rfl
theorem fl_X6_42 : Cond.fieldLink RX6 42 (TX6 16).1 (TX6 16).2.1 (TX6 16).2.2.1 ∈ qAW := qm 886 (by decide +kernel) rfl
theorem fl_X6_45 : Cond.fieldLink RX6 45 (TX6 17).1 (TX6 17).2.1 (TX6 17).2.2.1 ∈ qAW := qm 887 (by decide +kernel) rfl
theorem fl_X6_155 : Cond.fieldLink RX6 155 (TX6 18).1 (TX6 18).2.1 (TX6 18).2.2.1 ∈ qAW := qm 888 (by decide +kernel) rfl
theorem tk_IllegalArgumentException : Cond.classLink RX5 41 "java/lang/IllegalArgumentException" ∈ qAW := qm 229 (by decide +kernel) rfl
theorem ti_IllegalArgumentException : Cond.initialized "java/lang/IllegalArgumentException" ∈ qAW := qm 52 (by decide +kernel) rfl
theorem ta_IllegalArgumentException : ∀ w ∈ vx_atS RX5 45 "java/lang/IllegalArgumentException" ["java/lang/RuntimeException", "java/lang/Exception"], w ∈ qAW ∨ w ∈ qNg := by
  have h : (vx_atS RX5 45 "java/lang/IllegalArgumentException" ["java/lang/RuntimeException", "java/lang/Exception"]).all (fun w => decide (w ∈ lw_tbl) && (goodWord w || qNgw w)) = true := by decide +kernel
  intro w hw
  have h1 := List.all_eq_true.mp h w hw
  simp only [Bool.and_eq_true, Bool.or_eq_true, decide_eq_true_eq] at h1
  rcases h1 with ⟨h1, h2 | h2⟩
  · exact Or.inl (List.mem_filter.mpr ⟨h1, h2⟩)
  · exact Or.inr (List.mem_filter.mpr ⟨h1, h2⟩)
theorem tg_IllegalArgumentException : ∀ w ∈ Cond.classLink RX5 41 "java/lang/IllegalArgumentException" :: Cond.initialized "java/lang/IllegalArgumentException" :: vx_atS RX5 45 "java/lang/IllegalArgumentException" ["java/lang/RuntimeException", "java/lang/Exception"], vx_ot w = true := by decide +kernel
theorem tk_IllegalStateException : Cond.classLink RX5 52 "java/lang/IllegalStateException" ∈ qAW := qm 303 (by decide +kernel) rfl
theorem ti_IllegalStateException : Cond.initialized "java/lang/IllegalStateException" ∈ qAW := qm 53 (by decide +kernel) rfl
theorem ta_IllegalStateException : ∀ w ∈ vx_atS RX5 56 "java/lang/IllegalStateException" ["java/lang/RuntimeException", "java/lang/Exception"], w ∈ qAW ∨ w ∈ qNg := by
  have h : (vx_atS RX5 56 "java/lang/IllegalStateException" ["java/lang/RuntimeException", "java/lang/Exception"]).all (fun w => decide (w ∈ lw_tbl) && (goodWord w || qNgw w)) = true := by decide +kernel
  intro w hw
  have h1 := List.all_eq_true.mp h w hw
  simp only [Bool.and_eq_true, Bool.or_eq_true, decide_eq_true_eq] at h1
  rcases h1 with ⟨h1, h2 | h2⟩
  · exact Or.inl (List.mem_filter.mpr ⟨h1, h2⟩)
  · exact Or.inr (List.mem_filter.mpr ⟨h1, h2⟩)
theorem tg_IllegalStateException : ∀ w ∈ Cond.classLink RX5 52 "java/lang/IllegalStateException" :: Cond.initialized "java/lang/IllegalStateException" :: vx_atS RX5 56 "java/lang/IllegalStateException" ["java/lang/RuntimeException", "java/lang/Exception"], vx_ot w = true := by decide +kernel
theorem tk_UnsupportedOperationException : Cond.classLink RX5 75 "java/lang/UnsupportedOperationException" ∈ qAW := qm 373 (by decide +kernel) rfl
theorem ti_UnsupportedOperationException : Cond.initialized "java/lang/UnsupportedOperationException" ∈ qAW := qm 55 (by decide +kernel) rfl
theorem ta_UnsupportedOperationException : ∀ w ∈ vx_atS RX5 79 "java/lang/UnsupportedOperationException" ["java/lang/RuntimeException", "java/lang/Exception"], w ∈ qAW ∨ w ∈ qNg := by
  have h : (vx_atS RX5 79 "java/lang/UnsupportedOperationException" ["java/lang/RuntimeException", "java/lang/Exception"]).all (fun w => decide (w ∈ lw_tbl) && (goodWord w || qNgw w)) = true := by decide +kernel
  intro w hw
  have h1 := List.all_eq_true.mp h w hw
  simp only [Bool.and_eq_true, Bool.or_eq_true, decide_eq_true_eq] at h1
  rcases h1 with ⟨h1, h2 | h2⟩
  · exact Or.inl (List.mem_filter.mpr ⟨h1, h2⟩)
  · exact Or.inr (List.mem_filter.mpr ⟨h1, h2⟩)
theorem tg_UnsupportedOperationException : ∀ w ∈ Cond.classLink RX5 75 "java/lang/UnsupportedOperationException" :: Cond.initialized "java/lang/UnsupportedOperationException" :: vx_atS RX5 79 "java/lang/UnsupportedOperationException" ["java/lang/RuntimeException", "java/lang/Exception"], vx_ot w = true := by decide +kernel
theorem tk_IndexOutOfBoundsException : Cond.classLink RX5 258 "java/lang/IndexOutOfBoundsException" ∈ qAW := qm 340 (by decide +kernel) rfl
theorem ti_IndexOutOfBoundsException : Cond.initialized "java/lang/IndexOutOfBoundsException" ∈ qAW := qm 54 (by decide +kernel) rfl
theorem ta_IndexOutOfBoundsException : ∀ w ∈ vx_atS RX5 262 "java/lang/IndexOutOfBoundsException" ["java/lang/RuntimeException", "java/lang/Exception"], w ∈ qAW ∨ w ∈ qNg := by
  have h : (vx_atS RX5 262 "java/lang/IndexOutOfBoundsException" ["java/lang/RuntimeException", "java/lang/Exception"]).all (fun w => decide (w ∈ lw_tbl) && (goodWord w || qNgw w)) = true := by decide +kernel
  intro w hw
  have h1 := List.all_eq_true.mp h w hw
  simp only [Bool.and_eq_true, Bool.or_eq_true, decide_eq_true_eq] at h1
  rcases h1 with ⟨h1, h2 | h2⟩
  · exact Or.inl (List.mem_filter.mpr ⟨h1, h2⟩)
  · exact Or.inr (List.mem_filter.mpr ⟨h1, h2⟩)
theorem tg_IndexOutOfBoundsException : ∀ w ∈ Cond.classLink RX5 258 "java/lang/IndexOutOfBoundsException" :: Cond.initialized "java/lang/IndexOutOfBoundsException" :: vx_atS RX5 262 "java/lang/IndexOutOfBoundsException" ["java/lang/RuntimeException", "java/lang/Exception"], vx_ot w = true := by decide +kernel
theorem tk_NoSuchElementException : Cond.classLink RX5 117 "java/util/NoSuchElementException" ∈ qAW := qm 480 (by decide +kernel) rfl
theorem ti_NoSuchElementException : Cond.initialized "java/util/NoSuchElementException" ∈ qAW := qm 56 (by decide +kernel) rfl
end
section
/-! named reads and writes of fields; the usual calls -/
section QR2
variable {X : qEnv} {ω : qOm} {own : String} {cc : ByteArray} {nL : Nat} {ret : Option FieldType} {T : List ExceptionTableEntry} {fr mc k : Nat} {Q : State → Prop} {g : qHp} {pc : Nat} {ls : List (Nat × Value)} {st : List Value}
theorem q_getr (C : qCx X ω own cc nL ret T fr mc) {b t ci N idx : Nat} {ds : List qFd} {Cn : String} {TT : u_T} (j : Nat) (hlay : qLay b = .inr (ci, ds)) (hb38 : b < 38) (hc : vwCl[ci]? = some (Cn, TT, N)) (hin : ∀ w ∈ u_ws Cn TT N, w ∈ qAW) (hj : j < N) (hlink : Cond.fieldLink own idx (TT j).1 (TT j).2.1 (TT j).2.2.1 ∈ qAW) (hds : ds[j]? = some (.inl t)) (hd : decode cc pc = .ok (.getfield idx, 3)) (kk : qT X ω nL k Q g (pc + 3) ls (.ref (ω.1 t) :: st)) : qT X ω nL k Q g pc ls (.ref (ω.1 b) :: st) := q_getf C hlay hb38 hc hin hj hlink hds hd kk
theorem q_geti (C : qCx X ω own cc nL ret T fr mc) {b ci N idx : Nat} {ds : List qFd} {Cn : String} {TT : u_T} (j : Nat) (ji lo hi : Int) (hlay : qLay b = .inr (ci, ds)) (hb38 : b < 38) (hc : vwCl[ci]? = some (Cn, TT, N)) (hin : ∀ w ∈ u_ws Cn TT N, w ∈ qAW) (hj : j < N) (hlink : Cond.fieldLink own idx (TT j).1 (TT j).2.1 (TT j).2.2.1 ∈ qAW) (hds : ds[j]? = some (.inr false)) (hji : (j : Int) = ji) (hrg : qRng b ji = (lo, hi)) (hd : decode cc pc = .ok (.getfield idx, 3)) (kk : ∀ v : Int, v = g b ji → lo ≤ v → v ≤ hi → qT X ω nL k Q g (pc + 3) ls (.int (iI v) :: st)) : qT X ω nL k Q g pc ls (.ref (ω.1 b) :: st) := by
  refine q_nm (fun hn => ?_)
  have h := hn b ji
  rw [hrg] at h
  subst hji
  exact q_getf C hlay hb38 hc hin hj hlink hds hd (kk _ rfl h.1 h.2)
theorem q_getl (C : qCx X ω own cc nL ret T fr mc) {b ci N idx : Nat} {ds : List qFd} {Cn : String} {TT : u_T} (j : Nat) (ji lo hi : Int) (hlay : qLay b = .inr (ci, ds)) (hb38 : b < 38) (hc : vwCl[ci]? = some (Cn, TT, N)) (hin : ∀ w ∈ u_ws Cn TT N, w ∈ qAW) (hj : j < N) (hlink : Cond.fieldLink own idx (TT j).1 (TT j).2.1 (TT j).2.2.1 ∈ qAW) (hds : ds[j]? = some (.inr true)) (hji : (j : Int) = ji) (hrg : qRng b ji = (lo, hi)) (hd : decode cc pc = .ok (.getfield idx, 3)) (kk : ∀ v : Int, v = g b ji → lo ≤ v → v ≤ hi → qT X ω nL k Q g (pc + 3) ls (.long (lI v) :: st)) : qT X ω nL k Q g pc ls (.ref (ω.1 b) :: st) := by
  refine q_nm (fun hn => ?_)
  have h := hn b ji
  rw [hrg] at h
  subst hji
  exact q_getf C hlay hb38 hc hin hj hlink hds hd (kk _ rfl h.1 h.2)
theorem q_puti (C : qCx X ω own cc nL ret T fr mc) {b ci N idx : Nat} {ds : List qFd} {Cn : String} {TT : u_T} {ty0 : Nat → FieldType} {a : Int} (j : Nat) (ji lo hi w : Int) (hlay : qLay b = .inr (ci, ds)) (hb38 : b < 38) (hc : vwCl[ci]? = some (Cn, TT, N)) (hin : ∀ w ∈ u_ws Cn TT N, w ∈ qAW) (hty : ∀ k, k < N → parseFieldDescriptor (TT k).2.2.1 = some (ty0 k)) (hnm : ∀ a, a < N → ∀ b, b < N → a ≠ b → (TT a).2.1 ≠ (TT b).2.1) (hj : j < N) (hlink : Cond.fieldLink own idx (TT j).1 (TT j).2.1 (TT j).2.2.1 ∈ qAW) (hfin : (TT j).2.2.2 = false) (hde : parseFieldDescriptor (TT j).2.2.1 = some .int) (hds : ds[j]? = some (.inr false)) (hji : (j : Int) = ji) (hrg : qRng b ji = (lo, hi)) (hw : iI a = iI w) (hr : lo ≤ w ∧ w ≤ hi) (hd : decode cc pc = .ok (.putfield idx, 3)) (kk : qT X ω nL k Q (qUp g b ji w) (pc + 3) ls st) : qT X ω nL k Q g pc ls (.int (iI a) :: .ref (ω.1 b) :: st) := by
  subst hji
  refine q_putf C (ty := .int) w hlay hb38 hc hin hty hnm hj hlink hfin hde rfl rfl hds (by rw [hw]; rfl) (by rw [hrg]; exact hr) hd kk
theorem q_putl (C : qCx X ω own cc nL ret T fr mc) {b ci N idx : Nat} {ds : List qFd} {Cn : String} {TT : u_T} {ty0 : Nat → FieldType} {a : Int} (j : Nat) (ji lo hi w : Int) (hlay : qLay b = .inr (ci, ds)) (hb38 : b < 38) (hc : vwCl[ci]? = some (Cn, TT, N)) (hin : ∀ w ∈ u_ws Cn TT N, w ∈ qAW) (hty : ∀ k, k < N → parseFieldDescriptor (TT k).2.2.1 = some (ty0 k)) (hnm : ∀ a, a < N → ∀ b, b < N → a ≠ b → (TT a).2.1 ≠ (TT b).2.1) (hj : j < N) (hlink : Cond.fieldLink own idx (TT j).1 (TT j).2.1 (TT j).2.2.1 ∈ qAW) (hfin : (TT j).2.2.2 = false) (hde : parseFieldDescriptor (TT j).2.2.1 = some .long) (hds : ds[j]? = some (.inr true)) (hji : (j : Int) = ji) (hrg : qRng b ji = (lo, hi)) (hw : lI a = lI w) (hr : lo ≤ w ∧ w ≤ hi) (hd : decode cc pc = .ok (.putfield idx, 3)) (kk : qT X ω nL k Q (qUp g b ji w) (pc + 3) ls st) : qT X ω nL k Q g pc ls (.long (lI a) :: .ref (ω.1 b) :: st) := by
  subst hji
  refine q_putf C (ty := .long) w hlay hb38 hc hin hty hnm hj hlink hfin hde rfl rfl hds (by rw [hw]; rfl) (by rw [hrg]; exact hr) hd kk
/-! a number brought between its bounds -/
def w32 (a : Int) : Int := (a + 2147483648) % 4294967296 - 2147483648
theorem w32_rng (a : Int) : -2147483648 ≤ w32 a ∧ w32 a ≤ 2147483647 := by unfold w32; omega
theorem w32_iI (a : Int) : iI a = iI (w32 a) := by
  have h : iI (4294967296 * ((a + 2147483648) / 4294967296)) = 0 := by
    rw [← iI_mul]
    have : iI 4294967296 = 0 := by decide +kernel
    rw [this]
    exact Int32.zero_mul
  have e : a = w32 a + 4294967296 * ((a + 2147483648) / 4294967296) := by unfold w32; omega
  have h2 : iI (w32 a + 4294967296 * ((a + 2147483648) / 4294967296)) = iI (w32 a) := by
    rw [← iI_add, h]
    exact Int32.add_zero _
  exact (congrArg iI e).trans h2
def w64 (a : Int) : Int := (a + 9223372036854775808) % 18446744073709551616 - 9223372036854775808
theorem w64_rng (a : Int) : -9223372036854775808 ≤ w64 a ∧ w64 a ≤ 9223372036854775807 := by unfold w64; omega
theorem w64_lI (a : Int) : lI a = lI (w64 a) := by
  have h : lI (18446744073709551616 * ((a + 9223372036854775808) / 18446744073709551616)) = 0 := by
    have e1 : lI (18446744073709551616 * ((a + 9223372036854775808) / 18446744073709551616)) = lI 18446744073709551616 * lI ((a + 9223372036854775808) / 18446744073709551616) := Int64.ofInt_mul _ _
    rw [e1]
    have : lI 18446744073709551616 = 0 := by decide +kernel
    rw [this]
    exact Int64.zero_mul
  have e : a = w64 a + 18446744073709551616 * ((a + 9223372036854775808) / 18446744073709551616) := by unfold w64; omega
  have h2 : lI (w64 a + 18446744073709551616 * ((a + 9223372036854775808) / 18446744073709551616)) = lI (w64 a) := by
    rw [← lI_add, h]
    exact Int64.add_zero _
  exact (congrArg lI e).trans h2
variable {Post : Option Value → qHp → Prop} {PX : String → qHp → Prop}
variable {y : MethodName} {cd : Cond} {bytes : ByteArray} {maxL fr' mc' n idx b ci N : Nat} {rt : Option FieldType} {av : (Nat → Nat) → List Value} {PX' : String → qHp → Prop} {As rest : List Value} {ds : List qFd} {Cn : String} {TT : u_T} {G : qHp}
/-! V: on an object; S: static. i: an int and any heap; f: an int and the heap G; v: nothing and the heap G; w: nothing and any heap; l: a long and the heap G. 0: throws nothing and makes nothing; X: may throw, in a method without handlers -/
theorem q_Vi0 (C : qCx X ω own cc nL ret T fr mc) {P : Int → qHp → Prop} (hM : qC y cd fr' 0 av g (qPi P) qNo) (M : qMth y cd bytes maxL rt n) (hlk : Cond.methodLink own idx y ∈ qAW) (hd : decode cc pc = .ok (.invokevirtual idx, 3)) (hfr : fr' < fr) (hk : k ≤ mc) (hav : av ω.1 = .ref (ω.1 b) :: As) (hst : st = As.reverse ++ .ref (ω.1 b) :: rest) (hn : As.length = n) (hcat : (rest.map fun v => v.category).sum ≤ 8) (hlay : qLay b = .inr (ci, ds)) (hb38 : b < 38) (hc : vwCl[ci]? = some (Cn, TT, N)) (hCn : y.cls = Cn) (kk : ∀ (r : Int) (g' : qHp), -2147483648 ≤ r → r < 2147483648 → P r g' → qT X ω nL k Q g' (pc + 3) ls (.int (iI r) :: rest)) : qT X ω nL k Q g pc ls st :=
  q_callV0 C hM M hlk hav hst hn hcat hd hfr hk hlay hb38 hc hCn (fun v g' hp => by obtain ⟨r, rfl, hr, hp⟩ := hp; exact kk r g' hr.1 hr.2 hp) (fun E g' h => h.elim)
theorem q_Vf0 (C : qCx X ω own cc nL ret T fr mc) {P : Int → Prop} (hM : qC y cd fr' 0 av g (qPi (fun r g' => P r ∧ g' = G)) qNo) (M : qMth y cd bytes maxL rt n) (hlk : Cond.methodLink own idx y ∈ qAW) (hd : decode cc pc = .ok (.invokevirtual idx, 3)) (hfr : fr' < fr) (hk : k ≤ mc) (hav : av ω.1 = .ref (ω.1 b) :: As) (hst : st = As.reverse ++ .ref (ω.1 b) :: rest) (hn : As.length = n) (hcat : (rest.map fun v => v.category).sum ≤ 8) (hlay : qLay b = .inr (ci, ds)) (hb38 : b < 38) (hc : vwCl[ci]? = some (Cn, TT, N)) (hCn : y.cls = Cn) (kk : ∀ r : Int, -2147483648 ≤ r → r < 2147483648 → P r → qT X ω nL k Q G (pc + 3) ls (.int (iI r) :: rest)) : qT X ω nL k Q g pc ls st :=
  q_Vi0 C hM M hlk hd hfr hk hav hst hn hcat hlay hb38 hc hCn (fun r g' h1 h2 h3 => by obtain ⟨h3, rfl⟩ := h3; exact kk r h1 h2 h3)
theorem q_Vl0 (C : qCx X ω own cc nL ret T fr mc) {P : Int → Prop} (hM : qC y cd fr' 0 av g (qPl (fun r g' => P r ∧ g' = G)) qNo) (M : qMth y cd bytes maxL rt n) (hlk : Cond.methodLink own idx y ∈ qAW) (hd : decode cc pc = .ok (.invokevirtual idx, 3)) (hfr : fr' < fr) (hk : k ≤ mc) (hav : av ω.1 = .ref (ω.1 b) :: As) (hst : st = As.reverse ++ .ref (ω.1 b) :: rest) (hn : As.length = n) (hcat : (rest.map fun v => v.category).sum ≤ 8) (hlay : qLay b = .inr (ci, ds)) (hb38 : b < 38) (hc : vwCl[ci]? = some (Cn, TT, N)) (hCn : y.cls = Cn) (kk : ∀ r : Int, -9223372036854775808 ≤ r → r < 9223372036854775808 → P r → qT X ω nL k Q G (pc + 3) ls (.long (lI r) :: rest)) : qT X ω nL k Q g pc ls st :=
  q_callV0 C hM M hlk hav hst hn hcat hd hfr hk hlay hb38 hc hCn (fun v g' hp => by obtain ⟨r, rfl, hr, hp, rfl⟩ := hp; exact kk r hr.1 hr.2 hp) (fun E g' h => h.elim)
theorem q_Vli0 (C : qCx X ω own cc nL ret T fr mc) {P : Int → qHp → Prop} (hM : qC y cd fr' 0 av g (qPl P) qNo) (M : qMth y cd bytes maxL rt n) (hlk : Cond.methodLink own idx y ∈ qAW) (hd : decode cc pc = .ok (.invokevirtual idx, 3)) (hfr : fr' < fr) (hk : k ≤ mc) (hav : av ω.1 = .ref (ω.1 b) :: As) (hst : st = As.reverse ++ .ref (ω.1 b) :: rest) (hn : As.length = n) (hcat : (rest.map fun v => v.category).sum ≤ 8) (hlay : qLay b = .inr (ci, ds)) (hb38 : b < 38) (hc : vwCl[ci]? = some (Cn, TT, N)) (hCn : y.cls = Cn) (kk : ∀ (r : Int) (g' : qHp), -9223372036854775808 ≤ r → r < 9223372036854775808 → P r g' → qT X ω nL k Q g' (pc + 3) ls (.long (lI r) :: rest)) : qT X ω nL k Q g pc ls st :=
  q_callV0 C hM M hlk hav hst hn hcat hd hfr hk hlay hb38 hc hCn (fun v g' hp => by obtain ⟨r, rfl, hr, hp⟩ := hp; exact kk r g' hr.1 hr.2 hp) (fun E g' h => h.elim)
theorem q_Vff0 (C : qCx X ω own cc nL ret T fr mc) {P : UInt32 → Prop} (hM : qC y cd fr' 0 av g (qPf (fun r g' => P r ∧ g' = G)) qNo) (M : qMth y cd bytes maxL rt n) (hlk : Cond.methodLink own idx y ∈ qAW) (hd : decode cc pc = .ok (.invokevirtual idx, 3)) (hfr : fr' < fr) (hk : k ≤ mc) (hav : av ω.1 = .ref (ω.1 b) :: As) (hst : st = As.reverse ++ .ref (ω.1 b) :: rest) (hn : As.length = n) (hcat : (rest.map fun v => v.category).sum ≤ 8) (hlay : qLay b = .inr (ci, ds)) (hb38 : b < 38) (hc : vwCl[ci]? = some (Cn, TT, N)) (hCn : y.cls = Cn) (kk : ∀ r : UInt32, P r → qT X ω nL k Q G (pc + 3) ls (.float r :: rest)) : qT X ω nL k Q g pc ls st :=
  q_callV0 C hM M hlk hav hst hn hcat hd hfr hk hlay hb38 hc hCn (fun v g' hp => by obtain ⟨r, rfl, hp, rfl⟩ := hp; exact kk r hp) (fun E g' h => h.elim)
theorem q_Vw0 (C : qCx X ω own cc nL ret T fr mc) {P : qHp → Prop} (hM : qC y cd fr' 0 av g (qPv P) qNo) (M : qMth y cd bytes maxL rt n) (hlk : Cond.methodLink own idx y ∈ qAW) (hd : decode cc pc = .ok (.invokevirtual idx, 3)) (hfr : fr' < fr) (hk : k ≤ mc) (hav : av ω.1 = .ref (ω.1 b) :: As) (hst : st = As.reverse ++ .ref (ω.1 b) :: rest) (hn : As.length = n) (hcat : (rest.map fun v => v.category).sum ≤ 8) (hlay : qLay b = .inr (ci, ds)) (hb38 : b < 38) (hc : vwCl[ci]? = some (Cn, TT, N)) (hCn : y.cls = Cn) (kk : ∀ g' : qHp, P g' → qT X ω nL k Q g' (pc + 3) ls rest) : qT X ω nL k Q g pc ls st :=
  q_callV0 C hM M hlk hav hst hn hcat hd hfr hk hlay hb38 hc hCn (fun v g' hp => by obtain ⟨rfl, hp⟩ := hp; exact kk g' hp) (fun E g' h => h.elim)
theorem q_Vv0 (C : qCx X ω own cc nL ret T fr mc) (hM : qC y cd fr' 0 av g (qPv (fun g' => g' = G)) qNo) (M : qMth y cd bytes maxL rt n) (hlk : Cond.methodLink own idx y ∈ qAW) (hd : decode cc pc = .ok (.invokevirtual idx, 3)) (hfr : fr' < fr) (hk : k ≤ mc) (hav : av ω.1 = .ref (ω.1 b) :: As) (hst : st = As.reverse ++ .ref (ω.1 b) :: rest) (hn : As.length = n) (hcat : (rest.map fun v => v.category).sum ≤ 8) (hlay : qLay b = .inr (ci, ds)) (hb38 : b < 38) (hc : vwCl[ci]? = some (Cn, TT, N)) (hCn : y.cls = Cn) (kk : qT X ω nL k Q G (pc + 3) ls rest) : qT X ω nL k Q g pc ls st :=
  q_Vw0 C hM M hlk hd hfr hk hav hst hn hcat hlay hb38 hc hCn (fun g' h => by rw [h]; exact kk)
theorem q_Si0 (C : qCx X ω own cc nL ret T fr mc) {P : Int → qHp → Prop} (hM : qC y cd fr' 0 av g (qPi P) qNo) (M : qMts y cd bytes maxL rt n) (hlk : Cond.methodLink own idx y ∈ qAW) (hd : decode cc pc = .ok (.invokestatic idx, 3)) (hfr : fr' < fr) (hk : k ≤ mc) (hav : av ω.1 = As) (hst : st = As.reverse ++ rest) (hn : As.length = n) (hcat : (rest.map fun v => v.category).sum ≤ 8) (kk : ∀ (r : Int) (g' : qHp), -2147483648 ≤ r → r < 2147483648 → P r g' → qT X ω nL k Q g' (pc + 3) ls (.int (iI r) :: rest)) : qT X ω nL k Q g pc ls st :=
  q_callS0 C hM M hlk hav hst hn hcat hd hfr hk (fun v g' hp => by obtain ⟨r, rfl, hr, hp⟩ := hp; exact kk r g' hr.1 hr.2 hp) (fun E g' h => h.elim)
theorem q_Sf0 (C : qCx X ω own cc nL ret T fr mc) {P : Int → Prop} (hM : qC y cd fr' 0 av g (qPi (fun r g' => P r ∧ g' = G)) qNo) (M : qMts y cd bytes maxL rt n) (hlk : Cond.methodLink own idx y ∈ qAW) (hd : decode cc pc = .ok (.invokestatic idx, 3)) (hfr : fr' < fr) (hk : k ≤ mc) (hav : av ω.1 = As) (hst : st = As.reverse ++ rest) (hn : As.length = n) (hcat : (rest.map fun v => v.category).sum ≤ 8) (kk : ∀ r : Int, -2147483648 ≤ r → r < 2147483648 → P r → qT X ω nL k Q G (pc + 3) ls (.int (iI r) :: rest)) : qT X ω nL k Q g pc ls st :=
  q_Si0 C hM M hlk hd hfr hk hav hst hn hcat (fun r g' h1 h2 h3 => by obtain ⟨h3, rfl⟩ := h3; exact kk r h1 h2 h3)
theorem q_Sl0 (C : qCx X ω own cc nL ret T fr mc) {P : Int → Prop} (hM : qC y cd fr' 0 av g (qPl (fun r g' => P r ∧ g' = G)) qNo) (M : qMts y cd bytes maxL rt n) (hlk : Cond.methodLink own idx y ∈ qAW) (hd : decode cc pc = .ok (.invokestatic idx, 3)) (hfr : fr' < fr) (hk : k ≤ mc) (hav : av ω.1 = As) (hst : st = As.reverse ++ rest) (hn : As.length = n) (hcat : (rest.map fun v => v.category).sum ≤ 8) (kk : ∀ r : Int, -9223372036854775808 ≤ r → r < 9223372036854775808 → P r → qT X ω nL k Q G (pc + 3) ls (.long (lI r) :: rest)) : qT X ω nL k Q g pc ls st :=
  q_callS0 C hM M hlk hav hst hn hcat hd hfr hk (fun v g' hp => by obtain ⟨r, rfl, hr, hp, rfl⟩ := hp; exact kk r hr.1 hr.2 hp) (fun E g' h => h.elim)
/-! calls that may throw, in a method without handlers -/
theorem q_ViX (C : qCx X ω own cc nL ret [] fr mc) {P : Int → qHp → Prop} (hM : qC y cd fr' mc' av g (qPi P) PX') (M : qMth y cd bytes maxL rt n) (hlk : Cond.methodLink own idx y ∈ qAW) (hd : decode cc pc = .ok (.invokevirtual idx, 3)) (hfr : fr' < fr) (hk : k + mc' ≤ mc) (hav : av ω.1 = .ref (ω.1 b) :: As) (hst : st = As.reverse ++ .ref (ω.1 b) :: rest) (hn : As.length = n) (hcat : (rest.map fun v => v.category).sum ≤ 8) (hlay : qLay b = .inr (ci, ds)) (hb38 : b < 38) (hc : vwCl[ci]? = some (Cn, TT, N)) (hCn : y.cls = Cn) (hpx : ∀ E g', PX' E g' → PX E g') (kk : ∀ (r : Int) (g' : qHp), -2147483648 ≤ r → r < 2147483648 → P r g' → qT X ω nL (k + mc') (qEnd X ω Post PX mc) g' (pc + 3) ls (.int (iI r) :: rest)) : qT X ω nL k (qEnd X ω Post PX mc) g pc ls st :=
  q_callV0 C hM M hlk hav hst hn hcat hd hfr hk hlay hb38 hc hCn (fun v g' hp => by obtain ⟨r, rfl, hr, hp⟩ := hp; exact kk r g' hr.1 hr.2 hp) (fun E g' h => q_xout C hk (hpx E g' h))
theorem q_VwX (C : qCx X ω own cc nL ret [] fr mc) {P : qHp → Prop} (hM : qC y cd fr' mc' av g (qPv P) PX') (M : qMth y cd bytes maxL rt n) (hlk : Cond.methodLink own idx y ∈ qAW) (hd : decode cc pc = .ok (.invokevirtual idx, 3)) (hfr : fr' < fr) (hk : k + mc' ≤ mc) (hav : av ω.1 = .ref (ω.1 b) :: As) (hst : st = As.reverse ++ .ref (ω.1 b) :: rest) (hn : As.length = n) (hcat : (rest.map fun v => v.category).sum ≤ 8) (hlay : qLay b = .inr (ci, ds)) (hb38 : b < 38) (hc : vwCl[ci]? = some (Cn, TT, N)) (hCn : y.cls = Cn) (hpx : ∀ E g', PX' E g' → PX E g') (kk : ∀ g' : qHp, P g' → qT X ω nL (k + mc') (qEnd X ω Post PX mc) g' (pc + 3) ls rest) : qT X ω nL k (qEnd X ω Post PX mc) g pc ls st :=
  q_callV0 C hM M hlk hav hst hn hcat hd hfr hk hlay hb38 hc hCn (fun v g' hp => by obtain ⟨rfl, hp⟩ := hp; exact kk g' hp) (fun E g' h => q_xout C hk (hpx E g' h))
theorem q_VvX (C : qCx X ω own cc nL ret [] fr mc) {P : Prop} (hM : qC y cd fr' mc' av g (qPv (fun g' => P ∧ g' = G)) PX') (M : qMth y cd bytes maxL rt n) (hlk : Cond.methodLink own idx y ∈ qAW) (hd : decode cc pc = .ok (.invokevirtual idx, 3)) (hfr : fr' < fr) (hk : k + mc' ≤ mc) (hav : av ω.1 = .ref (ω.1 b) :: As) (hst : st = As.reverse ++ .ref (ω.1 b) :: rest) (hn : As.length = n) (hcat : (rest.map fun v => v.category).sum ≤ 8) (hlay : qLay b = .inr (ci, ds)) (hb38 : b < 38) (hc : vwCl[ci]? = some (Cn, TT, N)) (hCn : y.cls = Cn) (hpx : ∀ E g', PX' E g' → PX E g') (kk : P → qT X ω nL (k + mc') (qEnd X ω Post PX mc) G (pc + 3) ls rest) : qT X ω nL k (qEnd X ω Post PX mc) g pc ls st :=
  q_VwX C hM M hlk hd hfr hk hav hst hn hcat hlay hb38 hc hCn hpx (fun g' h => by obtain ⟨h, rfl⟩ := h; exact kk h)
end QR2
end
section
/-! Gate -/
/-- the first index from i on (n steps at most) where p holds, else i + n -/
def fstI (p : Int → Bool) : Nat → Int → Int
  | 0, i => i
  | n + 1, i => bif p i then i else fstI p n (i + 1)
theorem fstI_rng (p : Int → Bool) : ∀ (n : Nat) (i : Int), i ≤ fstI p n i ∧ fstI p n i ≤ i + n
  | 0, i => by simp [fstI]
  | n + 1, i => by
    have h := fstI_rng p n (i + 1)
    unfold fstI
    cases p i <;> simp <;> omega
theorem fstI_hit (p : Int → Bool) : ∀ (n : Nat) (i : Int), fstI p n i < i + n → p (fstI p n i) = true
  | 0, i, h => by simp [fstI] at h
  | n + 1, i, h => by
    unfold fstI at h ⊢
    cases hp : p i with
    | true => simpa [hp] using hp
    | false =>
      rw [hp] at h
      exact fstI_hit p n (i + 1) (by simp at h; omega)
theorem fstI_miss (p : Int → Bool) : ∀ (n : Nat) (i j : Int), i ≤ j → j < fstI p n i → p j = false
  | 0, i, j, h1, h2 => by simp [fstI] at h2; omega
  | n + 1, i, j, h1, h2 => by
    unfold fstI at h2
    cases hp : p i with
    | true => rw [hp] at h2; simp at h2; omega
    | false =>
      rw [hp] at h2
      by_cases e : j = i
      · rw [e]; exact hp
      · exact fstI_miss p n (i + 1) j (by omega) h2
theorem fstI_t {p : Int → Bool} {n : Nat} {i : Int} (h : p i = true) : fstI p (n + 1) i = i := by simp [fstI, h]
theorem fstI_f {p : Int → Bool} {n : Nat} {i : Int} (h : p i = false) : fstI p (n + 1) i = fstI p n (i + 1) := by simp [fstI, h]
/-- the first index below c where p holds, or -1 -/
def fstB (p : Int → Bool) (c : Int) : Int := bif decide (fstI p c.toNat 0 < c) then fstI p c.toNat 0 else -1
theorem fstB_congr {p q : Int → Bool} {c : Int} (h : ∀ i, 0 ≤ i → i < c → p i = q i) : fstB p c = fstB q c := by
  have key : ∀ (n : Nat) (i : Int), 0 ≤ i → i + n ≤ c → fstI p n i = fstI q n i := by
    intro n
    induction n with
    | zero => intro i _ _; rfl
    | succ n ih =>
      intro i h0 h1
      unfold fstI
      rw [h i h0 (by omega), ih (i + 1) (by omega) (by omega)]
  unfold fstB
  by_cases hc : 0 ≤ c
  · rw [key c.toNat 0 (by omega) (by omega)]
  · have : c.toNat = 0 := by omega
    rw [this]
    rfl
theorem fstB_spec (p : Int → Bool) (c : Int) : (fstB p c = -1 ∧ ∀ i, 0 ≤ i → i < c → p i = false) ∨ (0 ≤ fstB p c ∧ fstB p c < c ∧ p (fstB p c) = true ∧ ∀ i, 0 ≤ i → i < fstB p c → p i = false) := by
  unfold fstB
  have h1 := fstI_rng p c.toNat 0
  have h3 := fstI_miss p c.toNat 0
  by_cases h : fstI p c.toNat 0 < c
  · have h2 := fstI_hit p c.toNat 0 (by omega)
    rw [decide_eq_true h]
    exact Or.inr ⟨h1.1, h, h2, fun i a b => h3 i a b⟩
  · rw [decide_eq_false h]
    refine Or.inl ⟨rfl, fun i a b => h3 i a (by omega)⟩
theorem fstB_hit {p : Int → Bool} {c i : Int} (h0 : 0 ≤ i) (h1 : i < c) (hp : p i = true) (hm : fstI p c.toNat 0 = fstI p (c - i).toNat i) : fstB p c = i := by
  have e : (c - i).toNat = ((c - i).toNat - 1) + 1 := by omega
  rw [e, fstI_t hp] at hm
  unfold fstB
  rw [hm, decide_eq_true h1]
  rfl
theorem fstB_none {p : Int → Bool} {c i : Int} (h1 : c ≤ i) (hm : fstI p c.toNat 0 = fstI p (c - i).toNat i) : fstB p c = -1 := by
  have e : (c - i).toNat = 0 := by omega
  rw [e] at hm
  have hm : fstI p c.toNat 0 = i := hm
  unfold fstB
  rw [hm, decide_eq_false (by omega)]
  rfl
theorem fstI_next {p : Int → Bool} {c i : Int} (h1 : i < c) (hp : p i = false) (hm : fstI p c.toNat 0 = fstI p (c - i).toNat i) : fstI p c.toNat 0 = fstI p (c - (i + 1)).toNat (i + 1) := by
  have e : (c - i).toNat = (c - (i + 1)).toNat + 1 := by omega
  rw [e, fstI_f hp] at hm
  exact hm
/-- how many below n -/
def cntI (p : Int → Bool) : Nat → Int
  | 0 => 0
  | n + 1 => cntI p n + (bif p n then 1 else 0)
theorem cntI_rng (p : Int → Bool) : ∀ n : Nat, 0 ≤ cntI p n ∧ cntI p n ≤ n
  | 0 => by simp [cntI]
  | n + 1 => by
    have h := cntI_rng p n
    unfold cntI
    cases p n <;> simp <;> omega
theorem cntI_congr {p q : Int → Bool} : ∀ {n : Nat}, (∀ i : Int, 0 ≤ i → i < n → p i = q i) → cntI p n = cntI q n
  | 0, _ => rfl
  | n + 1, h => by
    unfold cntI
    rw [cntI_congr (n := n) (fun i a b => h i a (by omega)), h n (by omega) (by omega)]
theorem cntI_t {p : Int → Bool} {i : Int} (h0 : 0 ≤ i) (hp : p i = true) : cntI p (i + 1).toNat = cntI p i.toNat + 1 := by
  have e : (i + 1).toNat = i.toNat + 1 := by omega
  have e2 : ((i.toNat : Nat) : Int) = i := by omega
  rw [e]
  show cntI p i.toNat + _ = _
  rw [e2, hp]
  rfl
theorem cntI_f {p : Int → Bool} {i : Int} (h0 : 0 ≤ i) (hp : p i = false) : cntI p (i + 1).toNat = cntI p i.toNat := by
  have e : (i + 1).toNat = i.toNat + 1 := by omega
  have e2 : ((i.toNat : Nat) : Int) = i := by omega
  rw [e]
  show cntI p i.toNat + _ = _
  rw [e2, hp]
  simp
def bkB (g : qHp) (b : Int) : Int → Bool := fun i => decide (g 22 i = 98) && decide (g 19 i = b)
def bkL (g : qHp) (lane hour : Int) : Int → Bool := fun i => decide (g 22 i = 98) && (decide (g 21 i = lane) && decide (g 20 i = hour))
def stN (g : qHp) (t : Int) : Int → Bool := fun i => decide (g 22 i = t)
set_option maxRecDepth 20000 in
theorem KX1_count (g : qHp)  : qC yX1_count (.code yX1_count cX1_count 1 (some .int)) 0 0 (fun ad => [.ref (ad 18)]) g (qPi (fun (r : Int) (g' : qHp) => (r = g 18 4) ∧ g' = g)) qNo := by
  refine q_meth (by decide +kernel) rfl (fun _ => (Nat.le_of_ble_eq_true rfl)) (fun X ω C => ?_)
  refine q_loc [(0, .ref (ω.1 18))] ⟨rfl, trivial⟩ ?_
  refine q_aload_n C 0 dX1_count_0 rfl rfl ?_
  refine q_geti C (b := 18) 4 4 0 30 rfl (by decide) rfl in_X1 (by decide) fl_X1_25 rfl rfl rfl dX1_count_1 (fun v1 e1 l1 u1 => ?_)
  subst e1
  exact q_iretI C dX1_count_4 (by omega) (by decide) (⟨by omega, rfl⟩)
set_option maxRecDepth 20000 in
theorem KX1_has (g : qHp) (a : Int) (ha : -2147483648 ≤ a ∧ a < 2147483648)  : qC yX1_has (.code yX1_has cX1_has 2 (some .boolean)) 0 0 (fun ad => [.ref (ad 18), .int (iI a)]) g (qPi (fun (r : Int) (g' : qHp) => (((0 ≤ a ∧ a < g 18 4) ∧ r = 1) ∨ (¬ (0 ≤ a ∧ a < g 18 4) ∧ r = 0)) ∧ g' = g)) qNo := by
  refine q_meth (by decide +kernel) rfl (fun _ => (Nat.le_of_ble_eq_true rfl)) (fun X ω C => ?_)
  refine q_loc [(0, .ref (ω.1 18)), (1, .int (iI a))] ⟨rfl, rfl, trivial⟩ ?_
  refine q_iload_n C 1 dX1_has_0 rfl rfl ?_
  refine q_iflt C 16 dX1_has_1 (by decide) (by omega) (fun c1 => ?_) (fun c1 => ?_)
  · refine q_iconst C dX1_has_16 ?_
    exact q_iretZ C dX1_has_17 (by omega) (by decide) (⟨by omega, rfl⟩)
  · refine q_iload_n C 1 dX1_has_4 rfl rfl ?_
    refine q_aload_n C 0 dX1_has_5 rfl rfl ?_
    refine q_geti C (b := 18) 4 4 0 30 rfl (by decide) rfl in_X1 (by decide) fl_X1_25 rfl rfl rfl dX1_has_6 (fun v6 e6 l6 u6 => ?_)
    refine q_icmp_ge C 16 dX1_has_9 (by decide) (by omega) (by omega) (fun c9 => ?_) (fun c9 => ?_)
    · refine q_iconst C dX1_has_16 ?_
      subst e6
      exact q_iretZ C dX1_has_17 (by omega) (by decide) (⟨by omega, rfl⟩)
    · refine q_iconst C dX1_has_12 ?_
      refine q_goto C 17 dX1_has_13 (by decide) ?_
      subst e6
      exact q_iretZ C dX1_has_17 (by omega) (by decide) (⟨by omega, rfl⟩)
set_option maxRecDepth 20000 in
theorem KX1_boxOf (g : qHp) (a : Int) (ha : -2147483648 ≤ a ∧ a < 2147483648)  : qC yX1_boxOf (.code yX1_boxOf cX1_boxOf 2 (some .int)) 1 0 (fun ad => [.ref (ad 18), .int (iI a)]) g (qPi (fun (r : Int) (g' : qHp) => (((0 ≤ a ∧ a < g 18 4) ∧ r = g 19 a) ∨ (¬ (0 ≤ a ∧ a < g 18 4) ∧ r = -1)) ∧ g' = g)) qNo := by
  refine q_meth (by decide +kernel) rfl (fun _ => (Nat.le_of_ble_eq_true rfl)) (fun X ω C => ?_)
  refine q_nm (fun hn => ?_)
  have r18_4 : 0 ≤ g 18 4 ∧ g 18 4 ≤ 30 := hn 18 4
  refine q_loc [(0, .ref (ω.1 18)), (1, .int (iI a))] ⟨rfl, rfl, trivial⟩ ?_
  refine q_aload_n C 0 dX1_boxOf_0 rfl rfl ?_
  refine q_iload_n C 1 dX1_boxOf_1 rfl rfl ?_
  refine q_Vf0 C (KX1_has _ _ (by omega)) mX1_has ml_X1_29 dX1_boxOf_2 (by decide) (by decide) rfl rfl rfl (Nat.le_of_ble_eq_true rfl) rfl (by decide) rfl rfl (fun v2 l2 u2 h2 => ?_)
  refine q_ifeq C 17 dX1_boxOf_5 (by decide) (by omega) (fun c5 => ?_) (fun c5 => ?_)
  · refine q_iconst C dX1_boxOf_17 ?_
    exact q_iretI C dX1_boxOf_18 (by omega) (by decide) (⟨by omega, rfl⟩)
  · refine q_aload_n C 0 dX1_boxOf_8 rfl rfl ?_
    refine q_getr C (b := 18) 0 rfl (by decide) rfl in_X1 (by decide) fl_X1_9 rfl dX1_boxOf_9 ?_
    refine q_iload_n C 1 dX1_boxOf_12 rfl rfl ?_
    refine q_iald C (b := 19) (n := 30) 0 19 rfl (by decide) (by decide) (by omega) (fun _ => rfl) dX1_boxOf_13 (fun v13 e13 l13 u13 => ?_)
    refine q_goto C 18 dX1_boxOf_14 (by decide) ?_
    subst e13
    exact q_iretI C dX1_boxOf_18 (by omega) (by decide) (⟨by omega, rfl⟩)
set_option maxRecDepth 20000 in
theorem KX1_hourOf (g : qHp) (a : Int) (ha : -2147483648 ≤ a ∧ a < 2147483648)  : qC yX1_hourOf (.code yX1_hourOf cX1_hourOf 2 (some .int)) 1 0 (fun ad => [.ref (ad 18), .int (iI a)]) g (qPi (fun (r : Int) (g' : qHp) => (((0 ≤ a ∧ a < g 18 4) ∧ r = g 20 a) ∨ (¬ (0 ≤ a ∧ a < g 18 4) ∧ r = -1)) ∧ g' = g)) qNo := by
  refine q_meth (by decide +kernel) rfl (fun _ => (Nat.le_of_ble_eq_true rfl)) (fun X ω C => ?_)
  refine q_nm (fun hn => ?_)
  have r18_4 : 0 ≤ g 18 4 ∧ g 18 4 ≤ 30 := hn 18 4
  refine q_loc [(0, .ref (ω.1 18)), (1, .int (iI a))] ⟨rfl, rfl, trivial⟩ ?_
  refine q_aload_n C 0 dX1_hourOf_0 rfl rfl ?_
  refine q_iload_n C 1 dX1_hourOf_1 rfl rfl ?_
  refine q_Vf0 C (KX1_has _ _ (by omega)) mX1_has ml_X1_29 dX1_hourOf_2 (by decide) (by decide) rfl rfl rfl (Nat.le_of_ble_eq_true rfl) rfl (by decide) rfl rfl (fun v2 l2 u2 h2 => ?_)
  refine q_ifeq C 17 dX1_hourOf_5 (by decide) (by omega) (fun c5 => ?_) (fun c5 => ?_)
  · refine q_iconst C dX1_hourOf_17 ?_
    exact q_iretI C dX1_hourOf_18 (by omega) (by decide) (⟨by omega, rfl⟩)
  · refine q_aload_n C 0 dX1_hourOf_8 rfl rfl ?_
    refine q_getr C (b := 18) 1 rfl (by decide) rfl in_X1 (by decide) fl_X1_15 rfl dX1_hourOf_9 ?_
    refine q_iload_n C 1 dX1_hourOf_12 rfl rfl ?_
    refine q_iald C (b := 20) (n := 30) 0 999 rfl (by decide) (by decide) (by omega) (fun _ => rfl) dX1_hourOf_13 (fun v13 e13 l13 u13 => ?_)
    refine q_goto C 18 dX1_hourOf_14 (by decide) ?_
    subst e13
    exact q_iretI C dX1_hourOf_18 (by omega) (by decide) (⟨by omega, rfl⟩)
set_option maxRecDepth 20000 in
theorem KX1_state (g : qHp) (a : Int) (ha : -2147483648 ≤ a ∧ a < 2147483648)  : qC yX1_state (.code yX1_state cX1_state 2 (some .char)) 1 0 (fun ad => [.ref (ad 18), .int (iI a)]) g (qPi (fun (r : Int) (g' : qHp) => (((0 ≤ a ∧ a < g 18 4) ∧ r = g 22 a) ∨ (¬ (0 ≤ a ∧ a < g 18 4) ∧ r = 99)) ∧ g' = g)) qNo := by
  refine q_meth (by decide +kernel) rfl (fun _ => (Nat.le_of_ble_eq_true rfl)) (fun X ω C => ?_)
  refine q_nm (fun hn => ?_)
  have r18_4 : 0 ≤ g 18 4 ∧ g 18 4 ≤ 30 := hn 18 4
  refine q_loc [(0, .ref (ω.1 18)), (1, .int (iI a))] ⟨rfl, rfl, trivial⟩ ?_
  refine q_aload_n C 0 dX1_state_0 rfl rfl ?_
  refine q_iload_n C 1 dX1_state_1 rfl rfl ?_
  refine q_Vf0 C (KX1_has _ _ (by omega)) mX1_has ml_X1_29 dX1_state_2 (by decide) (by decide) rfl rfl rfl (Nat.le_of_ble_eq_true rfl) rfl (by decide) rfl rfl (fun v2 l2 u2 h2 => ?_)
  refine q_ifeq C 17 dX1_state_5 (by decide) (by omega) (fun c5 => ?_) (fun c5 => ?_)
  · refine q_bipush C dX1_state_17 (by decide +kernel) ?_
    exact q_iretC C dX1_state_19 (by omega) (by decide) (⟨by omega, rfl⟩)
  · refine q_aload_n C 0 dX1_state_8 rfl rfl ?_
    refine q_getr C (b := 18) 3 rfl (by decide) rfl in_X1 (by decide) fl_X1_21 rfl dX1_state_9 ?_
    refine q_iload_n C 1 dX1_state_12 rfl rfl ?_
    refine q_cald C (b := 22) (n := 30) 0 65535 rfl (by decide) (by decide) (by omega) (fun _ => rfl) dX1_state_13 (fun v13 e13 l13 u13 => ?_)
    refine q_goto C 19 dX1_state_14 (by decide) ?_
    subst e13
    exact q_iretC C dX1_state_19 (by omega) (by decide) (⟨by omega, rfl⟩)
set_option maxRecDepth 20000 in
theorem KX1_turn (g : qHp) (a : Int) (ha : -2147483648 ≤ a ∧ a < 2147483648) (t : Int) (ht : -2147483648 ≤ t ∧ t < 2147483648) (ht2 : 0 ≤ t ∧ t < 65536) : qC yX1_turn (.code yX1_turn cX1_turn 3 none) 1 0 (fun ad => [.ref (ad 18), .int (iI a), .int (iI t)]) g (qPv (fun g' : qHp => g' = (if 0 ≤ a ∧ a < g 18 4 then qUp g 22 a t else g))) qNo := by
  refine q_meth (by decide +kernel) rfl (fun _ => (Nat.le_of_ble_eq_true rfl)) (fun X ω C => ?_)
  refine q_nm (fun hn => ?_)
  have r18_4 : 0 ≤ g 18 4 ∧ g 18 4 ≤ 30 := hn 18 4
  refine q_loc [(0, .ref (ω.1 18)), (1, .int (iI a)), (2, .int (iI t))] ⟨rfl, rfl, rfl, trivial⟩ ?_
  refine q_aload_n C 0 dX1_turn_0 rfl rfl ?_
  refine q_iload_n C 1 dX1_turn_1 rfl rfl ?_
  refine q_Vf0 C (KX1_has _ _ (by omega)) mX1_has ml_X1_29 dX1_turn_2 (by decide) (by decide) rfl rfl rfl (Nat.le_of_ble_eq_true rfl) rfl (by decide) rfl rfl (fun v2 l2 u2 h2 => ?_)
  refine q_ifeq C 15 dX1_turn_5 (by decide) (by omega) (fun c5 => ?_) (fun c5 => ?_)
  · exact q_retV C dX1_turn_15 (by decide) (by first | rw [if_pos (by omega)] | rw [if_neg (by omega)])
  · refine q_aload_n C 0 dX1_turn_8 rfl rfl ?_
    refine q_getr C (b := 18) 3 rfl (by decide) rfl in_X1 (by decide) fl_X1_21 rfl dX1_turn_9 ?_
    refine q_iload_n C 1 dX1_turn_12 rfl rfl ?_
    refine q_iload_n C 2 dX1_turn_13 rfl rfl ?_
    refine q_cast C (b := 22) (n := 30) rfl (by decide) (by decide) (by omega) (by omega) (show 0 ≤ _ ∧ _ ≤ 65535 from (by omega)) dX1_turn_14 ?_
    exact q_retV C dX1_turn_15 (by decide) (by first | rw [if_pos (by omega)] | rw [if_neg (by omega)])
set_option maxRecDepth 20000 in
theorem KX1_bookedFor (g : qHp) (b : Int) (hb : -2147483648 ≤ b ∧ b < 2147483648)  : qC yX1_bookedFor (.code yX1_bookedFor cX1_bookedFor 3 (some .int)) 0 0 (fun ad => [.ref (ad 18), .int (iI b)]) g (qPi (fun (r : Int) (g' : qHp) => (r = fstB (bkB g b) (g 18 4)) ∧ g' = g)) qNo := by
  refine q_meth (by decide +kernel) rfl (fun _ => (Nat.le_of_ble_eq_true rfl)) (fun X ω C => ?_)
  refine q_nm (fun hn => ?_)
  have r18_4 : 0 ≤ g 18 4 ∧ g 18 4 ≤ 30 := hn 18 4
  refine q_loc [(0, .ref (ω.1 18)), (1, .int (iI b))] ⟨rfl, rfl, trivial⟩ ?_
  refine q_iconst C dX1_bookedFor_0 ?_
  refine q_istoreV_n C 2 dX1_bookedFor_1 rfl (by decide) (fun v1 e1 => ?_)
  have loop : ∀ (n : Nat) (i : Int), ((g 18 4 - i) < (n : Int)) → (0 ≤ i) → (i ≤ g 18 4) → (fstI (bkB g b) (g 18 4).toNat 0 = fstI (bkB g b) (g 18 4 - i).toNat i) → qT X ω 3 0 (qEnd X ω (qPi (fun (r : Int) (g' : qHp) => (r = fstB (bkB g b) (g 18 4)) ∧ g' = g)) qNo 0) g 2 [(0, .ref (ω.1 18)), (1, .int (iI b)), (2, .int (iI i))] [] := by
    intro n
    induction n with
    | zero => intro i hm hi hi2 hm2; exfalso; omega
    | succ n ih =>
      intro i hm hi hi2 hm2
      refine q_iload_n C 2 dX1_bookedFor_2 rfl rfl ?_
      refine q_aload_n C 0 dX1_bookedFor_3 rfl rfl ?_
      refine q_geti C (b := 18) 4 4 0 30 rfl (by decide) rfl in_X1 (by decide) fl_X1_25 rfl rfl rfl dX1_bookedFor_4 (fun v4 e4 l4 u4 => ?_)
      refine q_icmp_ge C 39 dX1_bookedFor_7 (by decide) (by omega) (by omega) (fun c7 => ?_) (fun c7 => ?_)
      · refine q_iconst C dX1_bookedFor_39 ?_
        subst e4
        exact q_iretI C dX1_bookedFor_40 (by omega) (by decide) ⟨(fstB_none (p := bkB g b) (by assumption) hm2).symm, rfl⟩
      · refine q_aload_n C 0 dX1_bookedFor_10 rfl rfl ?_
        refine q_getr C (b := 18) 3 rfl (by decide) rfl in_X1 (by decide) fl_X1_21 rfl dX1_bookedFor_11 ?_
        refine q_iload_n C 2 dX1_bookedFor_14 rfl rfl ?_
        refine q_cald C (b := 22) (n := 30) 0 65535 rfl (by decide) (by decide) (by omega) (fun _ => rfl) dX1_bookedFor_15 (fun v15 e15 l15 u15 => ?_)
        refine q_bipush C dX1_bookedFor_16 (by decide +kernel) ?_
        refine q_icmp_ne C 33 dX1_bookedFor_18 (by decide) (by omega) (by omega) (fun c18 => ?_) (fun c18 => ?_)
        · refine q_iinc C dX1_bookedFor_33 rfl (by decide) (fun v33 e33 => ?_)
          refine q_goto C 2 dX1_bookedFor_36 (by decide) ?_
          refine q_loc [(0, .ref (ω.1 18)), (1, .int (iI b)), (2, .int (iI v33))] ⟨rfl, rfl, rfl, trivial⟩ ?_
          exact ih v33 (by omega) (by omega) (by omega) (by subst e33 e15 e4; exact fstI_next (p := bkB g b) (by assumption) (by simp [bkB, bkL, *]) hm2)
        · refine q_aload_n C 0 dX1_bookedFor_21 rfl rfl ?_
          refine q_getr C (b := 18) 0 rfl (by decide) rfl in_X1 (by decide) fl_X1_9 rfl dX1_bookedFor_22 ?_
          refine q_iload_n C 2 dX1_bookedFor_25 rfl rfl ?_
          refine q_iald C (b := 19) (n := 30) 0 19 rfl (by decide) (by decide) (by omega) (fun _ => rfl) dX1_bookedFor_26 (fun v26 e26 l26 u26 => ?_)
          refine q_iload_n C 1 dX1_bookedFor_27 rfl rfl ?_
          refine q_icmp_ne C 33 dX1_bookedFor_28 (by decide) (by omega) (by omega) (fun c28 => ?_) (fun c28 => ?_)
          · refine q_iinc C dX1_bookedFor_33 rfl (by decide) (fun v33 e33 => ?_)
            refine q_goto C 2 dX1_bookedFor_36 (by decide) ?_
            refine q_loc [(0, .ref (ω.1 18)), (1, .int (iI b)), (2, .int (iI v33))] ⟨rfl, rfl, rfl, trivial⟩ ?_
            exact ih v33 (by omega) (by omega) (by omega) (by subst e33 e26 e15 e4; exact fstI_next (p := bkB g b) (by assumption) (by simp [bkB, bkL, *]) hm2)
          · refine q_iload_n C 2 dX1_bookedFor_31 rfl rfl ?_
            subst e26 e15 e4
            exact q_iretI C dX1_bookedFor_32 (by omega) (by decide) ⟨(fstB_hit (p := bkB g b) hi (by assumption) (by simp [bkB, bkL, *]) hm2).symm, rfl⟩
  refine q_loc [(0, .ref (ω.1 18)), (1, .int (iI b)), (2, .int (iI v1))] ⟨rfl, rfl, rfl, trivial⟩ ?_
  exact loop ((g 18 4 - v1).toNat + 1) v1 (by omega) (by omega) (by omega) (by rw [e1, Int.sub_zero])
set_option maxRecDepth 20000 in
theorem KX1_bookedAt (g : qHp) (lane : Int) (hlane : -2147483648 ≤ lane ∧ lane < 2147483648) (hour : Int) (hhour : -2147483648 ≤ hour ∧ hour < 2147483648)  : qC yX1_bookedAt (.code yX1_bookedAt cX1_bookedAt 4 (some .int)) 0 0 (fun ad => [.ref (ad 18), .int (iI lane), .int (iI hour)]) g (qPi (fun (r : Int) (g' : qHp) => (r = fstB (bkL g lane hour) (g 18 4)) ∧ g' = g)) qNo := by
  refine q_meth (by decide +kernel) rfl (fun _ => (Nat.le_of_ble_eq_true rfl)) (fun X ω C => ?_)
  refine q_nm (fun hn => ?_)
  have r18_4 : 0 ≤ g 18 4 ∧ g 18 4 ≤ 30 := hn 18 4
  refine q_loc [(0, .ref (ω.1 18)), (1, .int (iI lane)), (2, .int (iI hour))] ⟨rfl, rfl, rfl, trivial⟩ ?_
  refine q_iconst C dX1_bookedAt_0 ?_
  refine q_istoreV_n C 3 dX1_bookedAt_1 rfl (by decide) (fun v1 e1 => ?_)
  have loop : ∀ (n : Nat) (i : Int), ((g 18 4 - i) < (n : Int)) → (0 ≤ i) → (i ≤ g 18 4) → (fstI (bkL g lane hour) (g 18 4).toNat 0 = fstI (bkL g lane hour) (g 18 4 - i).toNat i) → qT X ω 4 0 (qEnd X ω (qPi (fun (r : Int) (g' : qHp) => (r = fstB (bkL g lane hour) (g 18 4)) ∧ g' = g)) qNo 0) g 2 [(0, .ref (ω.1 18)), (1, .int (iI lane)), (2, .int (iI hour)), (3, .int (iI i))] [] := by
    intro n
    induction n with
    | zero => intro i hm hi hi2 hm2; exfalso; omega
    | succ n ih =>
      intro i hm hi hi2 hm2
      refine q_iload_n C 3 dX1_bookedAt_2 rfl rfl ?_
      refine q_aload_n C 0 dX1_bookedAt_3 rfl rfl ?_
      refine q_geti C (b := 18) 4 4 0 30 rfl (by decide) rfl in_X1 (by decide) fl_X1_25 rfl rfl rfl dX1_bookedAt_4 (fun v4 e4 l4 u4 => ?_)
      refine q_icmp_ge C 49 dX1_bookedAt_7 (by decide) (by omega) (by omega) (fun c7 => ?_) (fun c7 => ?_)
      · refine q_iconst C dX1_bookedAt_49 ?_
        subst e4
        exact q_iretI C dX1_bookedAt_50 (by omega) (by decide) ⟨(fstB_none (p := bkL g lane hour) (by assumption) hm2).symm, rfl⟩
      · refine q_aload_n C 0 dX1_bookedAt_10 rfl rfl ?_
        refine q_getr C (b := 18) 3 rfl (by decide) rfl in_X1 (by decide) fl_X1_21 rfl dX1_bookedAt_11 ?_
        refine q_iload_n C 3 dX1_bookedAt_14 rfl rfl ?_
        refine q_cald C (b := 22) (n := 30) 0 65535 rfl (by decide) (by decide) (by omega) (fun _ => rfl) dX1_bookedAt_15 (fun v15 e15 l15 u15 => ?_)
        refine q_bipush C dX1_bookedAt_16 (by decide +kernel) ?_
        refine q_icmp_ne C 43 dX1_bookedAt_18 (by decide) (by omega) (by omega) (fun c18 => ?_) (fun c18 => ?_)
        · refine q_iinc C dX1_bookedAt_43 rfl (by decide) (fun v43 e43 => ?_)
          refine q_goto C 2 dX1_bookedAt_46 (by decide) ?_
          refine q_loc [(0, .ref (ω.1 18)), (1, .int (iI lane)), (2, .int (iI hour)), (3, .int (iI v43))] ⟨rfl, rfl, rfl, rfl, trivial⟩ ?_
          exact ih v43 (by omega) (by omega) (by omega) (by subst e43 e15 e4; exact fstI_next (p := bkL g lane hour) (by assumption) (by simp [bkB, bkL, *]) hm2)
        · refine q_aload_n C 0 dX1_bookedAt_21 rfl rfl ?_
          refine q_getr C (b := 18) 2 rfl (by decide) rfl in_X1 (by decide) fl_X1_18 rfl dX1_bookedAt_22 ?_
          refine q_iload_n C 3 dX1_bookedAt_25 rfl rfl ?_
          refine q_iald C (b := 21) (n := 30) 0 2 rfl (by decide) (by decide) (by omega) (fun _ => rfl) dX1_bookedAt_26 (fun v26 e26 l26 u26 => ?_)
          refine q_iload_n C 1 dX1_bookedAt_27 rfl rfl ?_
          refine q_icmp_ne C 43 dX1_bookedAt_28 (by decide) (by omega) (by omega) (fun c28 => ?_) (fun c28 => ?_)
          · refine q_iinc C dX1_bookedAt_43 rfl (by decide) (fun v43 e43 => ?_)
            refine q_goto C 2 dX1_bookedAt_46 (by decide) ?_
            refine q_loc [(0, .ref (ω.1 18)), (1, .int (iI lane)), (2, .int (iI hour)), (3, .int (iI v43))] ⟨rfl, rfl, rfl, rfl, trivial⟩ ?_
            exact ih v43 (by omega) (by omega) (by omega) (by subst e43 e26 e15 e4; exact fstI_next (p := bkL g lane hour) (by assumption) (by simp [bkB, bkL, *]) hm2)
          · refine q_aload_n C 0 dX1_bookedAt_31 rfl rfl ?_
            refine q_getr C (b := 18) 1 rfl (by decide) rfl in_X1 (by decide) fl_X1_15 rfl dX1_bookedAt_32 ?_
            refine q_iload_n C 3 dX1_bookedAt_35 rfl rfl ?_
            refine q_iald C (b := 20) (n := 30) 0 999 rfl (by decide) (by decide) (by omega) (fun _ => rfl) dX1_bookedAt_36 (fun v36 e36 l36 u36 => ?_)
            refine q_iload_n C 2 dX1_bookedAt_37 rfl rfl ?_
            refine q_icmp_ne C 43 dX1_bookedAt_38 (by decide) (by omega) (by omega) (fun c38 => ?_) (fun c38 => ?_)
            · refine q_iinc C dX1_bookedAt_43 rfl (by decide) (fun v43 e43 => ?_)
              refine q_goto C 2 dX1_bookedAt_46 (by decide) ?_
              refine q_loc [(0, .ref (ω.1 18)), (1, .int (iI lane)), (2, .int (iI hour)), (3, .int (iI v43))] ⟨rfl, rfl, rfl, rfl, trivial⟩ ?_
              exact ih v43 (by omega) (by omega) (by omega) (by subst e43 e36 e26 e15 e4; exact fstI_next (p := bkL g lane hour) (by assumption) (by simp [bkB, bkL, *]) hm2)
            · refine q_iload_n C 3 dX1_bookedAt_41 rfl rfl ?_
              subst e36 e26 e15 e4
              exact q_iretI C dX1_bookedAt_42 (by omega) (by decide) ⟨(fstB_hit (p := bkL g lane hour) hi (by assumption) (by simp [bkB, bkL, *]) hm2).symm, rfl⟩
  refine q_loc [(0, .ref (ω.1 18)), (1, .int (iI lane)), (2, .int (iI hour)), (3, .int (iI v1))] ⟨rfl, rfl, rfl, rfl, trivial⟩ ?_
  exact loop ((g 18 4 - v1).toNat + 1) v1 (by omega) (by omega) (by omega) (by rw [e1, Int.sub_zero])
set_option maxRecDepth 20000 in
theorem KX1_hasFreeLane (g : qHp) (hour : Int) (hhour : -2147483648 ≤ hour ∧ hour < 2147483648)  : qC yX1_hasFreeLane (.code yX1_hasFreeLane cX1_hasFreeLane 3 (some .boolean)) 1 0 (fun ad => [.ref (ad 18), .int (iI hour)]) g (qPi (fun (r : Int) (g' : qHp) => ((r = 1 ∧ (fstB (bkL g 0 hour) (g 18 4) = -1 ∨ fstB (bkL g 1 hour) (g 18 4) = -1 ∨ fstB (bkL g 2 hour) (g 18 4) = -1)) ∨ (r = 0 ∧ fstB (bkL g 0 hour) (g 18 4) ≠ -1 ∧ fstB (bkL g 1 hour) (g 18 4) ≠ -1 ∧ fstB (bkL g 2 hour) (g 18 4) ≠ -1)) ∧ g' = g)) qNo := by
  refine q_meth (by decide +kernel) rfl (fun _ => (Nat.le_of_ble_eq_true rfl)) (fun X ω C => ?_)
  refine q_loc [(0, .ref (ω.1 18)), (1, .int (iI hour))] ⟨rfl, rfl, trivial⟩ ?_
  refine q_iconst C dX1_hasFreeLane_0 ?_
  refine q_istoreV_n C 2 dX1_hasFreeLane_1 rfl (by decide) (fun v1 e1 => ?_)
  have loop : ∀ (n : Nat) (i : Int), ((3 - i) < (n : Int)) → (0 ≤ i) → (i ≤ 3) → (∀ j, 0 ≤ j → j < i → fstB (bkL g j hour) (g 18 4) ≠ -1) → qT X ω 3 0 (qEnd X ω (qPi (fun (r : Int) (g' : qHp) => ((r = 1 ∧ (fstB (bkL g 0 hour) (g 18 4) = -1 ∨ fstB (bkL g 1 hour) (g 18 4) = -1 ∨ fstB (bkL g 2 hour) (g 18 4) = -1)) ∨ (r = 0 ∧ fstB (bkL g 0 hour) (g 18 4) ≠ -1 ∧ fstB (bkL g 1 hour) (g 18 4) ≠ -1 ∧ fstB (bkL g 2 hour) (g 18 4) ≠ -1)) ∧ g' = g)) qNo 0) g 2 [(0, .ref (ω.1 18)), (1, .int (iI hour)), (2, .int (iI i))] [] := by
    intro n
    induction n with
    | zero => intro i hm hi hi2 hm2; exfalso; omega
    | succ n ih =>
      intro i hm hi hi2 hm2
      refine q_iload_n C 2 dX1_hasFreeLane_2 rfl rfl ?_
      refine q_iconst C dX1_hasFreeLane_3 ?_
      refine q_icmp_ge C 25 dX1_hasFreeLane_4 (by decide) (by omega) (by omega) (fun c4 => ?_) (fun c4 => ?_)
      · refine q_iconst C dX1_hasFreeLane_25 ?_
        have h0 := hm2 0 (by omega) (by omega)
        have h1 := hm2 1 (by omega) (by omega)
        have h2 := hm2 2 (by omega) (by omega)
        exact q_iretZ C dX1_hasFreeLane_26 (by omega) (by decide) ⟨by omega, rfl⟩
      · refine q_aload_n C 0 dX1_hasFreeLane_7 rfl rfl ?_
        refine q_iload_n C 2 dX1_hasFreeLane_8 rfl rfl ?_
        refine q_iload_n C 1 dX1_hasFreeLane_9 rfl rfl ?_
        refine q_Vf0 C (KX1_bookedAt _ _ (by omega) _ (by omega)) mX1_bookedAt ml_X1_33 dX1_hasFreeLane_10 (by decide) (by decide) rfl rfl rfl (Nat.le_of_ble_eq_true rfl) rfl (by decide) rfl rfl (fun v10 l10 u10 h10 => ?_)
        refine q_iconst C dX1_hasFreeLane_13 ?_
        refine q_icmp_ne C 19 dX1_hasFreeLane_14 (by decide) (by omega) (by omega) (fun c14 => ?_) (fun c14 => ?_)
        · refine q_iinc C dX1_hasFreeLane_19 rfl (by decide) (fun v19 e19 => ?_)
          refine q_goto C 2 dX1_hasFreeLane_22 (by decide) ?_
          refine q_loc [(0, .ref (ω.1 18)), (1, .int (iI hour)), (2, .int (iI v19))] ⟨rfl, rfl, rfl, trivial⟩ ?_
          exact ih v19 (by omega) (by omega) (by omega) (by intro j h1 h2; by_cases hj : j = i; (· subst hj; omega); (· exact hm2 j h1 (by omega)))
        · refine q_iconst C dX1_hasFreeLane_17 ?_
          have hc : i = 0 ∨ i = 1 ∨ i = 2 := by omega
          rcases hc with rfl | rfl | rfl <;> exact q_iretZ C dX1_hasFreeLane_18 (by omega) (by decide) ⟨by omega, rfl⟩
  refine q_loc [(0, .ref (ω.1 18)), (1, .int (iI hour)), (2, .int (iI v1))] ⟨rfl, rfl, rfl, trivial⟩ ?_
  exact loop ((3 - v1).toNat + 1) v1 (by omega) (by omega) (by omega) (fun j h1 h2 => by omega)
set_option maxRecDepth 20000 in
theorem KX1_countIn (g : qHp) (t : Int) (ht : -2147483648 ≤ t ∧ t < 2147483648)  : qC yX1_countIn (.code yX1_countIn cX1_countIn 4 (some .int)) 0 0 (fun ad => [.ref (ad 18), .int (iI t)]) g (qPi (fun (r : Int) (g' : qHp) => (r = cntI (stN g t) (g 18 4).toNat) ∧ g' = g)) qNo := by
  refine q_meth (by decide +kernel) rfl (fun _ => (Nat.le_of_ble_eq_true rfl)) (fun X ω C => ?_)
  refine q_nm (fun hn => ?_)
  have r18_4 : 0 ≤ g 18 4 ∧ g 18 4 ≤ 30 := hn 18 4
  refine q_loc [(0, .ref (ω.1 18)), (1, .int (iI t))] ⟨rfl, rfl, trivial⟩ ?_
  refine q_iconst C dX1_countIn_0 ?_
  refine q_istoreV_n C 2 dX1_countIn_1 rfl (by decide) (fun v1 e1 => ?_)
  refine q_iconst C dX1_countIn_2 ?_
  refine q_istoreV_n C 3 dX1_countIn_3 rfl (by decide) (fun v3 e3 => ?_)
  have hcr := fun m => cntI_rng (stN g t) m
  have loop : ∀ (n : Nat) (k : Int) (i : Int), ((g 18 4 - i) < (n : Int)) → (0 ≤ i) → (i ≤ g 18 4) → (k = cntI (stN g t) i.toNat) → qT X ω 4 0 (qEnd X ω (qPi (fun (r : Int) (g' : qHp) => (r = cntI (stN g t) (g 18 4).toNat) ∧ g' = g)) qNo 0) g 4 [(0, .ref (ω.1 18)), (1, .int (iI t)), (2, .int (iI k)), (3, .int (iI i))] [] := by
    intro n
    induction n with
    | zero => intro k i hm hi hi2 hm2; exfalso; omega
    | succ n ih =>
      intro k i hm hi hi2 hm2
      refine q_iload_n C 3 dX1_countIn_4 rfl rfl ?_
      refine q_aload_n C 0 dX1_countIn_5 rfl rfl ?_
      refine q_geti C (b := 18) 4 4 0 30 rfl (by decide) rfl in_X1 (by decide) fl_X1_25 rfl rfl rfl dX1_countIn_6 (fun v6 e6 l6 u6 => ?_)
      refine q_icmp_ge C 31 dX1_countIn_9 (by decide) (by omega) (by omega) (fun c9 => ?_) (fun c9 => ?_)
      · refine q_iload_n C 2 dX1_countIn_31 rfl rfl ?_
        have hq := hcr i.toNat
        subst e6
        have hie : i = g 18 4 := by omega
        subst hm2
        exact q_iretI C dX1_countIn_32 (by omega) (by decide) ⟨by rw [hie], rfl⟩
      · refine q_aload_n C 0 dX1_countIn_12 rfl rfl ?_
        refine q_getr C (b := 18) 3 rfl (by decide) rfl in_X1 (by decide) fl_X1_21 rfl dX1_countIn_13 ?_
        refine q_iload_n C 3 dX1_countIn_16 rfl rfl ?_
        refine q_cald C (b := 22) (n := 30) 0 65535 rfl (by decide) (by decide) (by omega) (fun _ => rfl) dX1_countIn_17 (fun v17 e17 l17 u17 => ?_)
        refine q_iload_n C 1 dX1_countIn_18 rfl rfl ?_
        refine q_icmp_ne C 25 dX1_countIn_19 (by decide) (by omega) (by omega) (fun c19 => ?_) (fun c19 => ?_)
        · refine q_iinc C dX1_countIn_25 rfl (by decide) (fun v25 e25 => ?_)
          refine q_goto C 4 dX1_countIn_28 (by decide) ?_
          refine q_loc [(0, .ref (ω.1 18)), (1, .int (iI t)), (2, .int (iI k)), (3, .int (iI v25))] ⟨rfl, rfl, rfl, rfl, trivial⟩ ?_
          exact ih k v25 (by omega) (by omega) (by omega) (by subst e25 e17 e6; first | (have q := cntI_t (p := stN g t) hi (by simp [stN, *]); omega) | (have q := cntI_f (p := stN g t) hi (by simp [stN, *]); omega))
        · refine q_iinc C dX1_countIn_22 rfl (by decide) (fun v22 e22 => ?_)
          refine q_iinc C dX1_countIn_25 rfl (by decide) (fun v25 e25 => ?_)
          refine q_goto C 4 dX1_countIn_28 (by decide) ?_
          refine q_loc [(0, .ref (ω.1 18)), (1, .int (iI t)), (2, .int (iI v22)), (3, .int (iI v25))] ⟨rfl, rfl, rfl, rfl, trivial⟩ ?_
          exact ih v22 v25 (by omega) (by omega) (by omega) (by subst e25 e22 e17 e6; first | (have q := cntI_t (p := stN g t) hi (by simp [stN, *]); omega) | (have q := cntI_f (p := stN g t) hi (by simp [stN, *]); omega))
  refine q_loc [(0, .ref (ω.1 18)), (1, .int (iI t)), (2, .int (iI v1)), (3, .int (iI v3))] ⟨rfl, rfl, rfl, rfl, trivial⟩ ?_
  exact loop ((g 18 4 - v3).toNat + 1) v1 v3 (by omega) (by omega) (by omega) (by rw [e1, e3]; rfl)
set_option maxRecDepth 20000 in
theorem KX1_register (g : qHp) (b : Int) (hb : -2147483648 ≤ b ∧ b < 2147483648) (hour : Int) (hhour : -2147483648 ≤ hour ∧ hour < 2147483648) (lane : Int) (hlane : -2147483648 ≤ lane ∧ lane < 2147483648) (hb2 : 0 ≤ b ∧ b ≤ 19) (hh2 : 0 ≤ hour ∧ hour ≤ 999) (hl2 : 0 ≤ lane ∧ lane ≤ 2) : qC yX1_register (.code yX1_register cX1_register 5 (some .int)) 0 0 (fun ad => [.ref (ad 18), .int (iI b), .int (iI hour), .int (iI lane)]) g (qPi (fun (r : Int) (g' : qHp) => ((g 18 4 < 30 ∧ r = g 18 4) ∨ (30 ≤ g 18 4 ∧ r = -1)) ∧ g' = (if g 18 4 < 30 then qUp (qUp (qUp (qUp (qUp g 18 4 (g 18 4 + 1)) 19 (g 18 4) b) 20 (g 18 4) hour) 21 (g 18 4) lane) 22 (g 18 4) 98 else g))) qNo := by
  refine q_meth (by decide +kernel) rfl (fun _ => (Nat.le_of_ble_eq_true rfl)) (fun X ω C => ?_)
  refine q_nm (fun hn => ?_)
  have r18_4 : 0 ≤ g 18 4 ∧ g 18 4 ≤ 30 := hn 18 4
  refine q_loc [(0, .ref (ω.1 18)), (1, .int (iI b)), (2, .int (iI hour)), (3, .int (iI lane))] ⟨rfl, rfl, rfl, rfl, trivial⟩ ?_
  refine q_aload_n C 0 dX1_register_0 rfl rfl ?_
  refine q_geti C (b := 18) 4 4 0 30 rfl (by decide) rfl in_X1 (by decide) fl_X1_25 rfl rfl rfl dX1_register_1 (fun v1 e1 l1 u1 => ?_)
  refine q_bipush C dX1_register_4 (by decide +kernel) ?_
  refine q_icmp_lt C 11 dX1_register_6 (by decide) (by omega) (by omega) (fun c6 => ?_) (fun c6 => ?_)
  · refine q_aload_n C 0 dX1_register_11 rfl rfl ?_
    refine q_geti C (b := 18) 4 4 0 30 rfl (by decide) rfl in_X1 (by decide) fl_X1_25 rfl rfl rfl dX1_register_12 (fun v12 e12 l12 u12 => ?_)
    refine q_istoreV C dX1_register_15 (by decide) (fun v15 e15 => ?_)
    refine q_aload_n C 0 dX1_register_17 rfl rfl ?_
    refine q_dup C dX1_register_18 rfl ?_
    refine q_geti C (b := 18) 4 4 0 30 rfl (by decide) rfl in_X1 (by decide) fl_X1_25 rfl rfl rfl dX1_register_19 (fun v19 e19 l19 u19 => ?_)
    refine q_iconst C dX1_register_22 ?_
    refine q_iadd C dX1_register_23 ?_
    refine q_puti C (b := 18) 4 4 0 30 _ rfl (by decide) rfl in_X1 tyX1_ok nmX1 (by decide) fl_X1_25 rfl (by decide +kernel) rfl rfl rfl rfl (by omega) dX1_register_24 ?_
    refine q_aload_n C 0 dX1_register_27 rfl rfl ?_
    refine q_getr C (b := 18) 0 rfl (by decide) rfl in_X1 (by decide) fl_X1_9 rfl dX1_register_28 ?_
    refine q_iload C dX1_register_31 rfl ?_
    refine q_iload_n C 1 dX1_register_33 rfl rfl ?_
    refine q_iast C (b := 19) (n := 30) rfl (by decide) (by decide) (by omega)  (show 0 ≤ _ ∧ _ ≤ 19 from (by omega)) dX1_register_34 ?_
    refine q_aload_n C 0 dX1_register_35 rfl rfl ?_
    refine q_getr C (b := 18) 1 rfl (by decide) rfl in_X1 (by decide) fl_X1_15 rfl dX1_register_36 ?_
    refine q_iload C dX1_register_39 rfl ?_
    refine q_iload_n C 2 dX1_register_41 rfl rfl ?_
    refine q_iast C (b := 20) (n := 30) rfl (by decide) (by decide) (by omega)  (show 0 ≤ _ ∧ _ ≤ 999 from (by omega)) dX1_register_42 ?_
    refine q_aload_n C 0 dX1_register_43 rfl rfl ?_
    refine q_getr C (b := 18) 2 rfl (by decide) rfl in_X1 (by decide) fl_X1_18 rfl dX1_register_44 ?_
    refine q_iload C dX1_register_47 rfl ?_
    refine q_iload_n C 3 dX1_register_49 rfl rfl ?_
    refine q_iast C (b := 21) (n := 30) rfl (by decide) (by decide) (by omega)  (show 0 ≤ _ ∧ _ ≤ 2 from (by omega)) dX1_register_50 ?_
    refine q_aload_n C 0 dX1_register_51 rfl rfl ?_
    refine q_getr C (b := 18) 3 rfl (by decide) rfl in_X1 (by decide) fl_X1_21 rfl dX1_register_52 ?_
    refine q_iload C dX1_register_55 rfl ?_
    refine q_bipush C dX1_register_57 (by decide +kernel) ?_
    refine q_cast C (b := 22) (n := 30) rfl (by decide) (by decide) (by omega) (by omega) (show 0 ≤ _ ∧ _ ≤ 65535 from (by omega)) dX1_register_59 ?_
    refine q_iload C dX1_register_60 rfl ?_
    subst e19 e15 e12 e1
    exact q_iretI C dX1_register_62 (by omega) (by decide) (⟨by omega, by first | rw [if_pos (by omega)] | rw [if_neg (by omega)]⟩)
  · refine q_iconst C dX1_register_9 ?_
    subst e1
    exact q_iretI C dX1_register_10 (by omega) (by decide) (⟨by omega, by first | rw [if_pos (by omega)] | rw [if_neg (by omega)]⟩)
end
section
/-! Cargo, Yard: what they answer, as functions of a yard's parts: c stacks, r reaches, h heights, p places, so the stack of each box -/
def cGet (n : Int) (f : Int → Int) (d x : Int) : Int := if 0 ≤ x ∧ x < n then f x else d
def yHt (c : Int) (h : Int → Int) (s : Int) : Int := if 0 ≤ s ∧ s < c then h s else 0
def yTop (c : Int) (h p : Int → Int) (s : Int) : Int := if 0 ≤ s ∧ s < c ∧ h s ≠ 0 then p (s * 4 + h s - 1) else -1
def yAt (c : Int) (h p : Int → Int) (s k : Int) : Int := if 0 ≤ k ∧ k < yHt c h s then p (s * 4 + k) else -1
def ySt (so : Int → Int) (x : Int) : Int := if 0 ≤ x ∧ x < 20 then so x else -1
def yUnd (c : Int) (h p so : Int → Int) (x : Int) : Int := fstI (fun k => decide (yAt c h p (ySt so x) k = x)) (yHt c h (ySt so x)).toNat 0
def yOvr (c : Int) (h p so : Int → Int) (x : Int) : Int := if ySt so x = -1 then 0 else yHt c h (ySt so x) - 1 - yUnd c h p so x
def cntF (p : Int → Bool) : Nat → Int → Int
  | 0, _ => 0
  | n + 1, i => (bif p i then 1 else 0) + cntF p n (i + 1)
theorem cntF_rng (p : Int → Bool) : ∀ (n : Nat) (i : Int), 0 ≤ cntF p n i ∧ cntF p n i ≤ n
  | 0, _ => by simp [cntF]
  | n + 1, i => by
    have h := cntF_rng p n (i + 1)
    unfold cntF
    cases p i <;> simp <;> omega
theorem cntF_t {p : Int → Bool} {c i : Int} (h : i < c) (hp : p i = true) : cntF p (c - i).toNat i = 1 + cntF p (c - (i + 1)).toNat (i + 1) := by
  have e : (c - i).toNat = (c - (i + 1)).toNat + 1 := by omega
  rw [e]
  show (bif p i then 1 else 0) + _ = _
  rw [hp]
  rfl
theorem cntF_f {p : Int → Bool} {c i : Int} (h : i < c) (hp : p i = false) : cntF p (c - i).toNat i = cntF p (c - (i + 1)).toNat (i + 1) := by
  have e : (c - i).toNat = (c - (i + 1)).toNat + 1 := by omega
  rw [e]
  show (bif p i then 1 else 0) + _ = _
  rw [hp]
  simp
theorem cntF_0 {p : Int → Bool} {c i : Int} (h : c ≤ i) : cntF p (c - i).toNat i = 0 := by
  have e : (c - i).toNat = 0 := by omega
  rw [e]
  rfl
def pinB (g : qHp) (x : Int) : Bool := decide (cGet (g 1 3) (g 3) 45 x = 112)
def yPin (g : qHp) (c : Int) (h p so : Int → Int) (x : Int) : Int := cntF (fun k => pinB g (yAt c h p (ySt so x) k)) (yHt c h (ySt so x) - (yUnd c h p so x + 1)).toNat (yUnd c h p so x + 1)
/-- can stack t bear a box of weight w, by its top -/
def yBears (g : qHp) (c : Int) (h p : Int → Int) (t w : Int) : Prop := yTop c h p t = -1 ∨ w ≤ cGet (g 1 3) (g 2) 0 (yTop c h p t)
def yWhyR (g : qHp) (c : Int) (r h p so : Int → Int) (x t v : Int) : Prop :=
  ((ySt so x = -1 ∨ yTop c h p (ySt so x) ≠ x) ∧ v = 116) ∨
  (ySt so x ≠ -1 ∧ yTop c h p (ySt so x) = x ∧
    ((pinB g x = true ∧ v = 112) ∨ (pinB g x = false ∧
      ((ySt so x = t ∧ v = 115) ∨ (ySt so x ≠ t ∧
        (((t < 0 ∨ c ≤ t ∨ r t ≤ h t) ∧ v = 102) ∨ (¬ (t < 0 ∨ c ≤ t ∨ r t ≤ h t) ∧
          ((yBears g c h p t (cGet (g 1 3) (g 2) 0 x) ∧ v = 45) ∨ (¬ yBears g c h p t (cGet (g 1 3) (g 2) 0 x) ∧ v = 119)))))))))
/-- one box more looked at -/
theorem eho_step {g g1 g2 : qHp} {i hour : Int} (h3 : ∀ j, g1 3 j = if (0 ≤ j ∧ j < i ∧ g 3 j ≠ 45 ∧ g 4 j = hour) then 45 else g 3 j) (h4 : ∀ j, g1 4 j = if (0 ≤ j ∧ j < i ∧ g 3 j ≠ 45 ∧ g 4 j = hour) then 0 else g 4 j) (ho : ∀ k, k ≠ 3 → k ≠ 4 → g1 k = g k) (hi : 0 ≤ i)
    (e : (g 3 i ≠ 45 ∧ g 4 i = hour ∧ g2 = qUp (qUp g1 3 i 45) 4 i 0) ∨ (¬ (g 3 i ≠ 45 ∧ g 4 i = hour) ∧ g2 = g1)) : (∀ j, g2 3 j = if (0 ≤ j ∧ j < i + 1 ∧ g 3 j ≠ 45 ∧ g 4 j = hour) then 45 else g 3 j) ∧ (∀ j, g2 4 j = if (0 ≤ j ∧ j < i + 1 ∧ g 3 j ≠ 45 ∧ g 4 j = hour) then 0 else g 4 j) ∧ (∀ k, k ≠ 3 → k ≠ 4 → g2 k = g k) := by
  rcases e with ⟨a, b, rfl⟩ | ⟨a, rfl⟩
  · refine ⟨fun j => ?_, fun j => ?_, fun k k3 k4 => ?_⟩
    · rw [qUp_k (by decide)]
      by_cases hj : j = i
      · rw [hj, qUp_s, if_pos (by omega)]
      · rw [qUp_j hj, h3 j]
        by_cases q : (0 ≤ j ∧ j < i ∧ g 3 j ≠ 45 ∧ g 4 j = hour)
        · rw [if_pos q, if_pos (by omega)]
        · rw [if_neg q, if_neg (by omega)]
    · by_cases hj : j = i
      · rw [hj, qUp_s, if_pos (by omega)]
      · rw [qUp_j hj, qUp_k (by decide), h4 j]
        by_cases q : (0 ≤ j ∧ j < i ∧ g 3 j ≠ 45 ∧ g 4 j = hour)
        · rw [if_pos q, if_pos (by omega)]
        · rw [if_neg q, if_neg (by omega)]
    · rw [qUp_row k4, qUp_row k3, ho k k3 k4]
  · refine ⟨fun j => ?_, fun j => ?_, ho⟩
    · rw [h3 j]
      by_cases hj : j = i
      · subst hj
        rw [if_neg (by omega), if_neg (by omega)]
      · by_cases q : (0 ≤ j ∧ j < i ∧ g 3 j ≠ 45 ∧ g 4 j = hour)
        · rw [if_pos q, if_pos (by omega)]
        · rw [if_neg q, if_neg (by omega)]
    · rw [h4 j]
      by_cases hj : j = i
      · subst hj
        rw [if_neg (by omega), if_neg (by omega)]
      · by_cases q : (0 ≤ j ∧ j < i ∧ g 3 j ≠ 45 ∧ g 4 j = hour)
        · rw [if_pos q, if_pos (by omega)]
        · rw [if_neg q, if_neg (by omega)]
set_option maxRecDepth 20000 in
theorem KX0_come (g : qHp)  : qC yX0_come (.code yX0_come cX0_come 1 (some .int)) 0 0 (fun ad => [.ref (ad 1)]) g (qPi (fun (r : Int) (g' : qHp) => (r = g 1 3) ∧ g' = g)) qNo := by
  refine q_meth (by decide +kernel) rfl (fun _ => (Nat.le_of_ble_eq_true rfl)) (fun X ω C => ?_)
  refine q_loc [(0, .ref (ω.1 1))] ⟨rfl, trivial⟩ ?_
  refine q_aload_n C 0 dX0_come_0 rfl rfl ?_
  refine q_geti C (b := 1) 3 3 0 20 rfl (by decide) rfl in_X0 (by decide) fl_X0_22 rfl rfl rfl dX0_come_1 (fun v1 e1 l1 u1 => ?_)
  subst e1
  exact q_iretI C dX0_come_4 (by omega) (by decide) (⟨by omega, rfl⟩)
set_option maxRecDepth 20000 in
theorem KX0_weightOf (g : qHp) (x : Int) (hx : -2147483648 ≤ x ∧ x < 2147483648)  : qC yX0_weightOf (.code yX0_weightOf cX0_weightOf 2 (some .int)) 0 0 (fun ad => [.ref (ad 1), .int (iI x)]) g (qPi (fun (r : Int) (g' : qHp) => (r = cGet (g 1 3) (g 2) 0 x) ∧ g' = g)) qNo := by
  refine q_meth (by decide +kernel) rfl (fun _ => (Nat.le_of_ble_eq_true rfl)) (fun X ω C => ?_)
  refine q_nm (fun hn => ?_)
  have r1_3 : 0 ≤ g 1 3 ∧ g 1 3 ≤ 20 := hn 1 3
  refine q_loc [(0, .ref (ω.1 1)), (1, .int (iI x))] ⟨rfl, rfl, trivial⟩ ?_
  refine q_iload_n C 1 dX0_weightOf_0 rfl rfl ?_
  refine q_iflt C 21 dX0_weightOf_1 (by decide) (by omega) (fun c1 => ?_) (fun c1 => ?_)
  · refine q_iconst C dX0_weightOf_21 ?_
    exact q_iretI C dX0_weightOf_22 (by omega) (by decide) (⟨by unfold cGet; first | rw [if_pos (by omega)] | rw [if_neg (by omega)], rfl⟩)
  · refine q_iload_n C 1 dX0_weightOf_4 rfl rfl ?_
    refine q_aload_n C 0 dX0_weightOf_5 rfl rfl ?_
    refine q_geti C (b := 1) 3 3 0 20 rfl (by decide) rfl in_X0 (by decide) fl_X0_22 rfl rfl rfl dX0_weightOf_6 (fun v6 e6 l6 u6 => ?_)
    refine q_icmp_ge C 21 dX0_weightOf_9 (by decide) (by omega) (by omega) (fun c9 => ?_) (fun c9 => ?_)
    · refine q_iconst C dX0_weightOf_21 ?_
      subst e6
      exact q_iretI C dX0_weightOf_22 (by omega) (by decide) (⟨by unfold cGet; first | rw [if_pos (by omega)] | rw [if_neg (by omega)], rfl⟩)
    · refine q_aload_n C 0 dX0_weightOf_12 rfl rfl ?_
      refine q_getr C (b := 1) 0 rfl (by decide) rfl in_X0 (by decide) fl_X0_9 rfl dX0_weightOf_13 ?_
      refine q_iload_n C 1 dX0_weightOf_16 rfl rfl ?_
      refine q_iald C (b := 2) (n := 20) 0 30 rfl (by decide) (by decide) (by omega) (fun _ => rfl) dX0_weightOf_17 (fun v17 e17 l17 u17 => ?_)
      refine q_goto C 22 dX0_weightOf_18 (by decide) ?_
      subst e17 e6
      exact q_iretI C dX0_weightOf_22 (by omega) (by decide) (⟨by unfold cGet; first | rw [if_pos (by omega)] | rw [if_neg (by omega)], rfl⟩)
set_option maxRecDepth 20000 in
theorem KX0_holdKind (g : qHp) (x : Int) (hx : -2147483648 ≤ x ∧ x < 2147483648)  : qC yX0_holdKind (.code yX0_holdKind cX0_holdKind 2 (some .char)) 0 0 (fun ad => [.ref (ad 1), .int (iI x)]) g (qPi (fun (r : Int) (g' : qHp) => (r = cGet (g 1 3) (g 3) 45 x) ∧ g' = g)) qNo := by
  refine q_meth (by decide +kernel) rfl (fun _ => (Nat.le_of_ble_eq_true rfl)) (fun X ω C => ?_)
  refine q_nm (fun hn => ?_)
  have r1_3 : 0 ≤ g 1 3 ∧ g 1 3 ≤ 20 := hn 1 3
  refine q_loc [(0, .ref (ω.1 1)), (1, .int (iI x))] ⟨rfl, rfl, trivial⟩ ?_
  refine q_iload_n C 1 dX0_holdKind_0 rfl rfl ?_
  refine q_iflt C 21 dX0_holdKind_1 (by decide) (by omega) (fun c1 => ?_) (fun c1 => ?_)
  · refine q_bipush C dX0_holdKind_21 (by decide +kernel) ?_
    exact q_iretC C dX0_holdKind_23 (by omega) (by decide) (⟨by unfold cGet; first | rw [if_pos (by omega)] | rw [if_neg (by omega)], rfl⟩)
  · refine q_iload_n C 1 dX0_holdKind_4 rfl rfl ?_
    refine q_aload_n C 0 dX0_holdKind_5 rfl rfl ?_
    refine q_geti C (b := 1) 3 3 0 20 rfl (by decide) rfl in_X0 (by decide) fl_X0_22 rfl rfl rfl dX0_holdKind_6 (fun v6 e6 l6 u6 => ?_)
    refine q_icmp_ge C 21 dX0_holdKind_9 (by decide) (by omega) (by omega) (fun c9 => ?_) (fun c9 => ?_)
    · refine q_bipush C dX0_holdKind_21 (by decide +kernel) ?_
      subst e6
      exact q_iretC C dX0_holdKind_23 (by omega) (by decide) (⟨by unfold cGet; first | rw [if_pos (by omega)] | rw [if_neg (by omega)], rfl⟩)
    · refine q_aload_n C 0 dX0_holdKind_12 rfl rfl ?_
      refine q_getr C (b := 1) 1 rfl (by decide) rfl in_X0 (by decide) fl_X0_15 rfl dX0_holdKind_13 ?_
      refine q_iload_n C 1 dX0_holdKind_16 rfl rfl ?_
      refine q_cald C (b := 3) (n := 20) 0 65535 rfl (by decide) (by decide) (by omega) (fun _ => rfl) dX0_holdKind_17 (fun v17 e17 l17 u17 => ?_)
      refine q_goto C 23 dX0_holdKind_18 (by decide) ?_
      subst e17 e6
      exact q_iretC C dX0_holdKind_23 (by omega) (by decide) (⟨by unfold cGet; first | rw [if_pos (by omega)] | rw [if_neg (by omega)], rfl⟩)
set_option maxRecDepth 20000 in
theorem KX0_holdEnd (g : qHp) (x : Int) (hx : -2147483648 ≤ x ∧ x < 2147483648)  : qC yX0_holdEnd (.code yX0_holdEnd cX0_holdEnd 2 (some .int)) 0 0 (fun ad => [.ref (ad 1), .int (iI x)]) g (qPi (fun (r : Int) (g' : qHp) => (r = cGet (g 1 3) (g 4) 0 x) ∧ g' = g)) qNo := by
  refine q_meth (by decide +kernel) rfl (fun _ => (Nat.le_of_ble_eq_true rfl)) (fun X ω C => ?_)
  refine q_nm (fun hn => ?_)
  have r1_3 : 0 ≤ g 1 3 ∧ g 1 3 ≤ 20 := hn 1 3
  refine q_loc [(0, .ref (ω.1 1)), (1, .int (iI x))] ⟨rfl, rfl, trivial⟩ ?_
  refine q_iload_n C 1 dX0_holdEnd_0 rfl rfl ?_
  refine q_iflt C 21 dX0_holdEnd_1 (by decide) (by omega) (fun c1 => ?_) (fun c1 => ?_)
  · refine q_iconst C dX0_holdEnd_21 ?_
    exact q_iretI C dX0_holdEnd_22 (by omega) (by decide) (⟨by unfold cGet; first | rw [if_pos (by omega)] | rw [if_neg (by omega)], rfl⟩)
  · refine q_iload_n C 1 dX0_holdEnd_4 rfl rfl ?_
    refine q_aload_n C 0 dX0_holdEnd_5 rfl rfl ?_
    refine q_geti C (b := 1) 3 3 0 20 rfl (by decide) rfl in_X0 (by decide) fl_X0_22 rfl rfl rfl dX0_holdEnd_6 (fun v6 e6 l6 u6 => ?_)
    refine q_icmp_ge C 21 dX0_holdEnd_9 (by decide) (by omega) (by omega) (fun c9 => ?_) (fun c9 => ?_)
    · refine q_iconst C dX0_holdEnd_21 ?_
      subst e6
      exact q_iretI C dX0_holdEnd_22 (by omega) (by decide) (⟨by unfold cGet; first | rw [if_pos (by omega)] | rw [if_neg (by omega)], rfl⟩)
    · refine q_aload_n C 0 dX0_holdEnd_12 rfl rfl ?_
      refine q_getr C (b := 1) 2 rfl (by decide) rfl in_X0 (by decide) fl_X0_19 rfl dX0_holdEnd_13 ?_
      refine q_iload_n C 1 dX0_holdEnd_16 rfl rfl ?_
      refine q_iald C (b := 4) (n := 20) 0 1000 rfl (by decide) (by decide) (by omega) (fun _ => rfl) dX0_holdEnd_17 (fun v17 e17 l17 u17 => ?_)
      refine q_goto C 22 dX0_holdEnd_18 (by decide) ?_
      subst e17 e6
      exact q_iretI C dX0_holdEnd_22 (by omega) (by decide) (⟨by unfold cGet; first | rw [if_pos (by omega)] | rw [if_neg (by omega)], rfl⟩)
set_option maxRecDepth 20000 in
theorem KX0_isHeld (g : qHp) (x : Int) (hx : -2147483648 ≤ x ∧ x < 2147483648)  : qC yX0_isHeld (.code yX0_isHeld cX0_isHeld 2 (some .boolean)) 1 0 (fun ad => [.ref (ad 1), .int (iI x)]) g (qPi (fun (r : Int) (g' : qHp) => (((cGet (g 1 3) (g 3) 45 x) ≠ 45 ∧ r = 1) ∨ ((cGet (g 1 3) (g 3) 45 x) = 45 ∧ r = 0)) ∧ g' = g)) qNo := by
  refine q_meth (by decide +kernel) rfl (fun _ => (Nat.le_of_ble_eq_true rfl)) (fun X ω C => ?_)
  refine q_loc [(0, .ref (ω.1 1)), (1, .int (iI x))] ⟨rfl, rfl, trivial⟩ ?_
  refine q_aload_n C 0 dX0_isHeld_0 rfl rfl ?_
  refine q_iload_n C 1 dX0_isHeld_1 rfl rfl ?_
  refine q_Vf0 C (KX0_holdKind _ _ (by omega)) mX0_holdKind ml_X0_30 dX0_isHeld_2 (by decide) (by decide) rfl rfl rfl (Nat.le_of_ble_eq_true rfl) rfl (by decide) rfl rfl (fun v2 l2 u2 h2 => ?_)
  refine q_bipush C dX0_isHeld_5 (by decide +kernel) ?_
  refine q_icmp_eq C 14 dX0_isHeld_7 (by decide) (by omega) (by omega) (fun c7 => ?_) (fun c7 => ?_)
  · refine q_iconst C dX0_isHeld_14 ?_
    exact q_iretZ C dX0_isHeld_15 (by omega) (by decide) (⟨by omega, rfl⟩)
  · refine q_iconst C dX0_isHeld_10 ?_
    refine q_goto C 15 dX0_isHeld_11 (by decide) ?_
    exact q_iretZ C dX0_isHeld_15 (by omega) (by decide) (⟨by omega, rfl⟩)
set_option maxRecDepth 20000 in
theorem KX0_isPinned (g : qHp) (x : Int) (hx : -2147483648 ≤ x ∧ x < 2147483648)  : qC yX0_isPinned (.code yX0_isPinned cX0_isPinned 2 (some .boolean)) 1 0 (fun ad => [.ref (ad 1), .int (iI x)]) g (qPi (fun (r : Int) (g' : qHp) => ((pinB g x = true ∧ r = 1) ∨ (pinB g x = false ∧ r = 0)) ∧ g' = g)) qNo := by
  refine q_meth (by decide +kernel) rfl (fun _ => (Nat.le_of_ble_eq_true rfl)) (fun X ω C => ?_)
  refine q_loc [(0, .ref (ω.1 1)), (1, .int (iI x))] ⟨rfl, rfl, trivial⟩ ?_
  refine q_aload_n C 0 dX0_isPinned_0 rfl rfl ?_
  refine q_iload_n C 1 dX0_isPinned_1 rfl rfl ?_
  refine q_Vf0 C (KX0_holdKind _ _ (by omega)) mX0_holdKind ml_X0_30 dX0_isPinned_2 (by decide) (by decide) rfl rfl rfl (Nat.le_of_ble_eq_true rfl) rfl (by decide) rfl rfl (fun v2 l2 u2 h2 => ?_)
  refine q_bipush C dX0_isPinned_5 (by decide +kernel) ?_
  refine q_icmp_ne C 14 dX0_isPinned_7 (by decide) (by omega) (by omega) (fun c7 => ?_) (fun c7 => ?_)
  · refine q_iconst C dX0_isPinned_14 ?_
    exact q_iretZ C dX0_isPinned_15 (by omega) (by decide) (⟨by unfold pinB; first | exact Or.inl ⟨decide_eq_true (by omega), by omega⟩ | exact Or.inr ⟨decide_eq_false (by omega), by omega⟩, rfl⟩)
  · refine q_iconst C dX0_isPinned_10 ?_
    refine q_goto C 15 dX0_isPinned_11 (by decide) ?_
    exact q_iretZ C dX0_isPinned_15 (by omega) (by decide) (⟨by unfold pinB; first | exact Or.inl ⟨decide_eq_true (by omega), by omega⟩ | exact Or.inr ⟨decide_eq_false (by omega), by omega⟩, rfl⟩)
set_option maxRecDepth 20000 in
theorem KX0_isHeldIn (g : qHp) (x : Int) (hx : -2147483648 ≤ x ∧ x < 2147483648) (hour : Int) (hhour : -2147483648 ≤ hour ∧ hour < 2147483648)  : qC yX0_isHeldIn (.code yX0_isHeldIn cX0_isHeldIn 3 (some .boolean)) 2 0 (fun ad => [.ref (ad 1), .int (iI x), .int (iI hour)]) g (qPi (fun (r : Int) (g' : qHp) => (((cGet (g 1 3) (g 3) 45 x ≠ 45 ∧ hour < cGet (g 1 3) (g 4) 0 x) ∧ r = 1) ∨ (¬ (cGet (g 1 3) (g 3) 45 x ≠ 45 ∧ hour < cGet (g 1 3) (g 4) 0 x) ∧ r = 0)) ∧ g' = g)) qNo := by
  refine q_meth (by decide +kernel) rfl (fun _ => (Nat.le_of_ble_eq_true rfl)) (fun X ω C => ?_)
  refine q_loc [(0, .ref (ω.1 1)), (1, .int (iI x)), (2, .int (iI hour))] ⟨rfl, rfl, rfl, trivial⟩ ?_
  refine q_aload_n C 0 dX0_isHeldIn_0 rfl rfl ?_
  refine q_iload_n C 1 dX0_isHeldIn_1 rfl rfl ?_
  refine q_Vf0 C (KX0_isHeld _ _ (by omega)) mX0_isHeld ml_X0_34 dX0_isHeldIn_2 (by decide) (by decide) rfl rfl rfl (Nat.le_of_ble_eq_true rfl) rfl (by decide) rfl rfl (fun v2 l2 u2 h2 => ?_)
  refine q_ifeq C 21 dX0_isHeldIn_5 (by decide) (by omega) (fun c5 => ?_) (fun c5 => ?_)
  · refine q_iconst C dX0_isHeldIn_21 ?_
    exact q_iretZ C dX0_isHeldIn_22 (by omega) (by decide) (⟨by omega, rfl⟩)
  · refine q_iload_n C 2 dX0_isHeldIn_8 rfl rfl ?_
    refine q_aload_n C 0 dX0_isHeldIn_9 rfl rfl ?_
    refine q_iload_n C 1 dX0_isHeldIn_10 rfl rfl ?_
    refine q_Vf0 C (KX0_holdEnd _ _ (by omega)) mX0_holdEnd ml_X0_38 dX0_isHeldIn_11 (by decide) (by decide) rfl rfl rfl (Nat.le_of_ble_eq_true rfl) rfl (by decide) rfl rfl (fun v11 l11 u11 h11 => ?_)
    refine q_icmp_ge C 21 dX0_isHeldIn_14 (by decide) (by omega) (by omega) (fun c14 => ?_) (fun c14 => ?_)
    · refine q_iconst C dX0_isHeldIn_21 ?_
      exact q_iretZ C dX0_isHeldIn_22 (by omega) (by decide) (⟨by omega, rfl⟩)
    · refine q_iconst C dX0_isHeldIn_17 ?_
      refine q_goto C 22 dX0_isHeldIn_18 (by decide) ?_
      exact q_iretZ C dX0_isHeldIn_22 (by omega) (by decide) (⟨by omega, rfl⟩)
set_option maxRecDepth 20000 in
theorem KX0_putHold (g : qHp) (x : Int) (hx : -2147483648 ≤ x ∧ x < 2147483648) (kd : Int) (hkd : -2147483648 ≤ kd ∧ kd < 2147483648) (ut : Int) (hut : -2147483648 ≤ ut ∧ ut < 2147483648) (hk2 : 0 ≤ kd ∧ kd < 65536) (hu2 : 0 ≤ ut ∧ ut ≤ 1000) : qC yX0_putHold (.code yX0_putHold cX0_putHold 4 none) 0 0 (fun ad => [.ref (ad 1), .int (iI x), .int (iI kd), .int (iI ut)]) g (qPv (fun g' : qHp => g' = (if 0 ≤ x ∧ x < g 1 3 then qUp (qUp g 3 x kd) 4 x ut else g))) qNo := by
  refine q_meth (by decide +kernel) rfl (fun _ => (Nat.le_of_ble_eq_true rfl)) (fun X ω C => ?_)
  refine q_nm (fun hn => ?_)
  have r1_3 : 0 ≤ g 1 3 ∧ g 1 3 ≤ 20 := hn 1 3
  refine q_loc [(0, .ref (ω.1 1)), (1, .int (iI x)), (2, .int (iI kd)), (3, .int (iI ut))] ⟨rfl, rfl, rfl, rfl, trivial⟩ ?_
  refine q_iload_n C 1 dX0_putHold_0 rfl rfl ?_
  refine q_iflt C 26 dX0_putHold_1 (by decide) (by omega) (fun c1 => ?_) (fun c1 => ?_)
  · exact q_retV C dX0_putHold_26 (by decide) (by first | rw [if_pos (by omega)] | rw [if_neg (by omega)])
  · refine q_iload_n C 1 dX0_putHold_4 rfl rfl ?_
    refine q_aload_n C 0 dX0_putHold_5 rfl rfl ?_
    refine q_geti C (b := 1) 3 3 0 20 rfl (by decide) rfl in_X0 (by decide) fl_X0_22 rfl rfl rfl dX0_putHold_6 (fun v6 e6 l6 u6 => ?_)
    refine q_icmp_ge C 26 dX0_putHold_9 (by decide) (by omega) (by omega) (fun c9 => ?_) (fun c9 => ?_)
    · subst e6
      exact q_retV C dX0_putHold_26 (by decide) (by first | rw [if_pos (by omega)] | rw [if_neg (by omega)])
    · refine q_aload_n C 0 dX0_putHold_12 rfl rfl ?_
      refine q_getr C (b := 1) 1 rfl (by decide) rfl in_X0 (by decide) fl_X0_15 rfl dX0_putHold_13 ?_
      refine q_iload_n C 1 dX0_putHold_16 rfl rfl ?_
      refine q_iload_n C 2 dX0_putHold_17 rfl rfl ?_
      refine q_cast C (b := 3) (n := 20) rfl (by decide) (by decide) (by omega) (by omega) (show 0 ≤ _ ∧ _ ≤ 65535 from (by omega)) dX0_putHold_18 ?_
      refine q_aload_n C 0 dX0_putHold_19 rfl rfl ?_
      refine q_getr C (b := 1) 2 rfl (by decide) rfl in_X0 (by decide) fl_X0_19 rfl dX0_putHold_20 ?_
      refine q_iload_n C 1 dX0_putHold_23 rfl rfl ?_
      refine q_iload_n C 3 dX0_putHold_24 rfl rfl ?_
      refine q_iast C (b := 4) (n := 20) rfl (by decide) (by decide) (by omega)  (show 0 ≤ _ ∧ _ ≤ 1000 from (by omega)) dX0_putHold_25 ?_
      subst e6
      exact q_retV C dX0_putHold_26 (by decide) (by first | rw [if_pos (by omega)] | rw [if_neg (by omega)])
set_option maxRecDepth 20000 in
theorem KX0_endHold (g : qHp) (x : Int) (hx : -2147483648 ≤ x ∧ x < 2147483648)  : qC yX0_endHold (.code yX0_endHold cX0_endHold 2 none) 1 0 (fun ad => [.ref (ad 1), .int (iI x)]) g (qPv (fun g' : qHp => g' = (if 0 ≤ x ∧ x < g 1 3 then qUp (qUp g 3 x 45) 4 x 0 else g))) qNo := by
  refine q_meth (by decide +kernel) rfl (fun _ => (Nat.le_of_ble_eq_true rfl)) (fun X ω C => ?_)
  refine q_loc [(0, .ref (ω.1 1)), (1, .int (iI x))] ⟨rfl, rfl, trivial⟩ ?_
  refine q_aload_n C 0 dX0_endHold_0 rfl rfl ?_
  refine q_iload_n C 1 dX0_endHold_1 rfl rfl ?_
  refine q_bipush C dX0_endHold_2 (by decide +kernel) ?_
  refine q_iconst C dX0_endHold_4 ?_
  refine q_Vv0 C (KX0_putHold _ _ (by omega) _ (by omega) _ (by omega) (by omega) (by omega)) mX0_putHold ml_X0_42 dX0_endHold_5 (by decide) (by decide) rfl rfl rfl (Nat.le_of_ble_eq_true rfl) rfl (by decide) rfl rfl ?_
  exact q_retV C dX0_endHold_8 (by decide) (rfl)
set_option maxRecDepth 20000 in
theorem KX0_register (g : qHp) (w : Int) (hw : -2147483648 ≤ w ∧ w < 2147483648) (hw2 : 0 ≤ w ∧ w ≤ 30) : qC yX0_register (.code yX0_register cX0_register 3 (some .int)) 2 0 (fun ad => [.ref (ad 1), .int (iI w)]) g (qPi (fun (r : Int) (g' : qHp) => ((g 1 3 < 20 ∧ r = g 1 3) ∨ (20 ≤ g 1 3 ∧ r = -1)) ∧ g' = (if g 1 3 < 20 then qUp (qUp (qUp (qUp g 1 3 (g 1 3 + 1)) 2 (g 1 3) w) 3 (g 1 3) 45) 4 (g 1 3) 0 else g))) qNo := by
  refine q_meth (by decide +kernel) rfl (fun _ => (Nat.le_of_ble_eq_true rfl)) (fun X ω C => ?_)
  refine q_nm (fun hn => ?_)
  have r1_3 : 0 ≤ g 1 3 ∧ g 1 3 ≤ 20 := hn 1 3
  refine q_loc [(0, .ref (ω.1 1)), (1, .int (iI w))] ⟨rfl, rfl, trivial⟩ ?_
  refine q_aload_n C 0 dX0_register_0 rfl rfl ?_
  refine q_geti C (b := 1) 3 3 0 20 rfl (by decide) rfl in_X0 (by decide) fl_X0_22 rfl rfl rfl dX0_register_1 (fun v1 e1 l1 u1 => ?_)
  refine q_bipush C dX0_register_4 (by decide +kernel) ?_
  refine q_icmp_lt C 11 dX0_register_6 (by decide) (by omega) (by omega) (fun c6 => ?_) (fun c6 => ?_)
  · refine q_aload_n C 0 dX0_register_11 rfl rfl ?_
    refine q_geti C (b := 1) 3 3 0 20 rfl (by decide) rfl in_X0 (by decide) fl_X0_22 rfl rfl rfl dX0_register_12 (fun v12 e12 l12 u12 => ?_)
    refine q_istoreV_n C 2 dX0_register_15 rfl (by decide) (fun v15 e15 => ?_)
    refine q_aload_n C 0 dX0_register_16 rfl rfl ?_
    refine q_dup C dX0_register_17 rfl ?_
    refine q_geti C (b := 1) 3 3 0 20 rfl (by decide) rfl in_X0 (by decide) fl_X0_22 rfl rfl rfl dX0_register_18 (fun v18 e18 l18 u18 => ?_)
    refine q_iconst C dX0_register_21 ?_
    refine q_iadd C dX0_register_22 ?_
    refine q_puti C (b := 1) 3 3 0 20 _ rfl (by decide) rfl in_X0 tyX0_ok nmX0 (by decide) fl_X0_22 rfl (by decide +kernel) rfl rfl rfl rfl (by omega) dX0_register_23 ?_
    refine q_aload_n C 0 dX0_register_26 rfl rfl ?_
    refine q_getr C (b := 1) 0 rfl (by decide) rfl in_X0 (by decide) fl_X0_9 rfl dX0_register_27 ?_
    refine q_iload_n C 2 dX0_register_30 rfl rfl ?_
    refine q_iload_n C 1 dX0_register_31 rfl rfl ?_
    refine q_iast C (b := 2) (n := 20) rfl (by decide) (by decide) (by omega)  (show 0 ≤ _ ∧ _ ≤ 30 from (by omega)) dX0_register_32 ?_
    refine q_aload_n C 0 dX0_register_33 rfl rfl ?_
    refine q_iload_n C 2 dX0_register_34 rfl rfl ?_
    refine q_Vv0 C (KX0_endHold _ _ (by omega)) mX0_endHold ml_X0_26 dX0_register_35 (by decide) (by decide) rfl rfl rfl (Nat.le_of_ble_eq_true rfl) rfl (by decide) rfl rfl ?_
    refine q_iload_n C 2 dX0_register_38 rfl rfl ?_
    have hz : (qUp (qUp g 1 3 (v18 + 1)) 2 v15 w) 1 3 = v18 + 1 := by rw [qUp_k (by decide), qUp_s]
    subst e18 e15 e12 e1
    exact q_iretI C dX0_register_39 (by omega) (by decide) ⟨by omega, by rw [if_pos (by rw [hz]; omega), if_pos (by omega)]⟩
  · refine q_iconst C dX0_register_9 ?_
    subst e1
    exact q_iretI C dX0_register_10 (by omega) (by decide) ⟨by omega, by rw [if_neg (by omega)]⟩
set_option maxRecDepth 20000 in
theorem KX0_endHoldsOf (g : qHp) (hour : Int) (hhour : -2147483648 ≤ hour ∧ hour < 2147483648)  : qC yX0_endHoldsOf (.code yX0_endHoldsOf cX0_endHoldsOf 3 none) 3 0 (fun ad => [.ref (ad 1), .int (iI hour)]) g (qPv (fun g' : qHp => (∀ j, g' 3 j = if (0 ≤ j ∧ j < g 1 3 ∧ g 3 j ≠ 45 ∧ g 4 j = hour) then 45 else g 3 j) ∧ (∀ j, g' 4 j = if (0 ≤ j ∧ j < g 1 3 ∧ g 3 j ≠ 45 ∧ g 4 j = hour) then 0 else g 4 j) ∧ (∀ k, k ≠ 3 → k ≠ 4 → g' k = g k))) qNo := by
  refine q_meth (by decide +kernel) rfl (fun _ => (Nat.le_of_ble_eq_true rfl)) (fun X ω C => ?_)
  refine q_nm (fun hn => ?_)
  have r1_3 : 0 ≤ g 1 3 ∧ g 1 3 ≤ 20 := hn 1 3
  refine q_loc [(0, .ref (ω.1 1)), (1, .int (iI hour))] ⟨rfl, rfl, trivial⟩ ?_
  refine q_iconst C dX0_endHoldsOf_0 ?_
  refine q_istoreV_n C 2 dX0_endHoldsOf_1 rfl (by decide) (fun v1 e1 => ?_)
  have loop : ∀ (n : Nat) (i : Int) (g1 : qHp), ((g 1 3 - i) < (n : Int)) → (0 ≤ i) → (i ≤ g 1 3) → ((∀ j, g1 3 j = if (0 ≤ j ∧ j < i ∧ g 3 j ≠ 45 ∧ g 4 j = hour) then 45 else g 3 j) ∧ (∀ j, g1 4 j = if (0 ≤ j ∧ j < i ∧ g 3 j ≠ 45 ∧ g 4 j = hour) then 0 else g 4 j) ∧ (∀ k, k ≠ 3 → k ≠ 4 → g1 k = g k)) → qT X ω 3 0 (qEnd X ω (qPv (fun g' : qHp => (∀ j, g' 3 j = if (0 ≤ j ∧ j < g 1 3 ∧ g 3 j ≠ 45 ∧ g 4 j = hour) then 45 else g 3 j) ∧ (∀ j, g' 4 j = if (0 ≤ j ∧ j < g 1 3 ∧ g 3 j ≠ 45 ∧ g 4 j = hour) then 0 else g 4 j) ∧ (∀ k, k ≠ 3 → k ≠ 4 → g' k = g k))) qNo 0) g1 2 [(0, .ref (ω.1 1)), (1, .int (iI hour)), (2, .int (iI i))] [] := by
    intro n
    induction n with
    | zero => intro i g1 hm hi hi2 hh; exfalso; omega
    | succ n ih =>
      intro i g1 hm hi hi2 hh
      obtain ⟨h3, h4, ho⟩ := hh
      have ho1 : g1 1 3 = g 1 3 := by rw [ho 1 (by decide) (by decide)]
      refine q_iload_n C 2 dX0_endHoldsOf_2 rfl rfl ?_
      refine q_aload_n C 0 dX0_endHoldsOf_3 rfl rfl ?_
      refine q_geti C (b := 1) 3 3 0 20 rfl (by decide) rfl in_X0 (by decide) fl_X0_22 rfl rfl rfl dX0_endHoldsOf_4 (fun v4 e4 l4 u4 => ?_)
      refine q_icmp_ge C 38 dX0_endHoldsOf_7 (by decide) (by omega) (by omega) (fun c7 => ?_) (fun c7 => ?_)
      · subst e4
        have hie : i = g 1 3 := by omega
        subst hie
        exact q_retV C dX0_endHoldsOf_38 (by decide) ⟨h3, h4, ho⟩
      · refine q_aload_n C 0 dX0_endHoldsOf_10 rfl rfl ?_
        refine q_iload_n C 2 dX0_endHoldsOf_11 rfl rfl ?_
        refine q_Vf0 C (KX0_isHeld _ _ (by omega)) mX0_isHeld ml_X0_34 dX0_endHoldsOf_12 (by decide) (by decide) rfl rfl rfl (Nat.le_of_ble_eq_true rfl) rfl (by decide) rfl rfl (fun v12 l12 u12 h12 => ?_)
        refine q_ifeq C 32 dX0_endHoldsOf_15 (by decide) (by omega) (fun c15 => ?_) (fun c15 => ?_)
        · refine q_iinc C dX0_endHoldsOf_32 rfl (by decide) (fun v32 e32 => ?_)
          refine q_goto C 2 dX0_endHoldsOf_35 (by decide) ?_
          refine q_loc [(0, .ref (ω.1 1)), (1, .int (iI hour)), (2, .int (iI v32))] ⟨rfl, rfl, rfl, trivial⟩ ?_
          subst e32 e4
          refine ih _ _ (by omega) (by omega) (by omega) (eho_step h3 h4 ho hi ?_)
          have hc1 : cGet (g1 1 3) (g1 3) 45 i = g 3 i := by unfold cGet; rw [ho 1 (by decide) (by decide), if_pos (by omega), h3 i, if_neg (by omega)]
          have hc2 : cGet (g1 1 3) (g1 4) 0 i = g 4 i := by unfold cGet; rw [ho 1 (by decide) (by decide), if_pos (by omega), h4 i, if_neg (by omega)]
          first | exact Or.inl ⟨by omega, by omega, by rw [if_pos (by omega)]⟩ | exact Or.inr ⟨by omega, rfl⟩
        · refine q_aload_n C 0 dX0_endHoldsOf_18 rfl rfl ?_
          refine q_iload_n C 2 dX0_endHoldsOf_19 rfl rfl ?_
          refine q_Vf0 C (KX0_holdEnd _ _ (by omega)) mX0_holdEnd ml_X0_38 dX0_endHoldsOf_20 (by decide) (by decide) rfl rfl rfl (Nat.le_of_ble_eq_true rfl) rfl (by decide) rfl rfl (fun v20 l20 u20 h20 => ?_)
          refine q_iload_n C 1 dX0_endHoldsOf_23 rfl rfl ?_
          refine q_icmp_ne C 32 dX0_endHoldsOf_24 (by decide) (by omega) (by omega) (fun c24 => ?_) (fun c24 => ?_)
          · refine q_iinc C dX0_endHoldsOf_32 rfl (by decide) (fun v32 e32 => ?_)
            refine q_goto C 2 dX0_endHoldsOf_35 (by decide) ?_
            refine q_loc [(0, .ref (ω.1 1)), (1, .int (iI hour)), (2, .int (iI v32))] ⟨rfl, rfl, rfl, trivial⟩ ?_
            subst e32 e4
            refine ih _ _ (by omega) (by omega) (by omega) (eho_step h3 h4 ho hi ?_)
            have hc1 : cGet (g1 1 3) (g1 3) 45 i = g 3 i := by unfold cGet; rw [ho 1 (by decide) (by decide), if_pos (by omega), h3 i, if_neg (by omega)]
            have hc2 : cGet (g1 1 3) (g1 4) 0 i = g 4 i := by unfold cGet; rw [ho 1 (by decide) (by decide), if_pos (by omega), h4 i, if_neg (by omega)]
            first | exact Or.inl ⟨by omega, by omega, by rw [if_pos (by omega)]⟩ | exact Or.inr ⟨by omega, rfl⟩
          · refine q_aload_n C 0 dX0_endHoldsOf_27 rfl rfl ?_
            refine q_iload_n C 2 dX0_endHoldsOf_28 rfl rfl ?_
            refine q_Vv0 C (KX0_endHold _ _ (by omega)) mX0_endHold ml_X0_26 dX0_endHoldsOf_29 (by decide) (by decide) rfl rfl rfl (Nat.le_of_ble_eq_true rfl) rfl (by decide) rfl rfl ?_
            refine q_iinc C dX0_endHoldsOf_32 rfl (by decide) (fun v32 e32 => ?_)
            refine q_goto C 2 dX0_endHoldsOf_35 (by decide) ?_
            refine q_loc [(0, .ref (ω.1 1)), (1, .int (iI hour)), (2, .int (iI v32))] ⟨rfl, rfl, rfl, trivial⟩ ?_
            subst e32 e4
            refine ih _ _ (by omega) (by omega) (by omega) (eho_step h3 h4 ho hi ?_)
            have hc1 : cGet (g1 1 3) (g1 3) 45 i = g 3 i := by unfold cGet; rw [ho 1 (by decide) (by decide), if_pos (by omega), h3 i, if_neg (by omega)]
            have hc2 : cGet (g1 1 3) (g1 4) 0 i = g 4 i := by unfold cGet; rw [ho 1 (by decide) (by decide), if_pos (by omega), h4 i, if_neg (by omega)]
            first | exact Or.inl ⟨by omega, by omega, by rw [if_pos (by omega)]⟩ | exact Or.inr ⟨by omega, rfl⟩
  refine q_loc [(0, .ref (ω.1 1)), (1, .int (iI hour)), (2, .int (iI v1))] ⟨rfl, rfl, rfl, trivial⟩ ?_
  exact loop ((g 1 3 - v1).toNat + 1) v1 g (by omega) (by omega) (by omega) ⟨fun j => by rw [if_neg (by omega)], fun j => by rw [if_neg (by omega)], fun _ _ _ => rfl⟩
end
section
/-! Yard: each method for the yard (cell 5) and the trial yard (cell 10) -/
def qCp (g : qHp) (a b : Nat) (n : Int) : qHp := fun k j => if k = b ∧ 0 ≤ j ∧ j < n then g a j else g k j
theorem qCp_row {g : qHp} {a b k : Nat} {n : Int} (h : k ≠ b) : qCp g a b n k = g k := by funext j; simp [qCp, h]
theorem qCp_in {g : qHp} {a b : Nat} {n j : Int} (h0 : 0 ≤ j) (h1 : j < n) : qCp g a b n b j = g a j := by simp [qCp, h0, h1]
theorem qCp_out {g : qHp} {a b : Nat} {n j : Int} (h : ¬ (0 ≤ j ∧ j < n)) : qCp g a b n b j = g b j := by
  unfold qCp
  rw [if_neg (fun q => h q.2)]
section QCP
variable {X : qEnv} {ω : qOm} {own : String} {cc : ByteArray} {nL : Nat} {ret : Option FieldType} {T : List ExceptionTableEntry} {fr mc k : Nat} {Q : State → Prop} {g : qHp} {pc : Nat} {ls : List (Nat × Value)} {st : List Value}
theorem q_copyi (C : qCx X ω own cc nL ret T fr mc) {a b idx na : Nat} {n : Int} (hla : qLay a = .inl (0, na)) (hlb : qLay b = .inl (0, na)) (ha38 : a < 38) (hb38 : b < 38) (hab : a ≠ b) (hn : 0 ≤ n ∧ n ≤ na) (hna : na < 2147483648) (hrg : ∀ j, qRng b j = qRng a j)
    (hlk : Cond.methodLink own idx arraycopyName ∈ qAW) (hnat : Cond.native arraycopyName ∈ qAW) (hstat : Cond.static arraycopyName ∈ qAW) (hini : Cond.initialized "java/lang/System" ∈ qAW) (hfr : 1 ≤ fr) (hcat : (st.map fun v => v.category).sum ≤ 8) (hnw : nativeFrameWords "java/lang/System" "arraycopy" 5 ≤ 20) (hd : decode cc pc = .ok (.invokestatic idx, 3))
    (kk : qT X ω nL k Q (qCp g a b n) (pc + 3) ls st) : qT X ω nL k Q g pc ls (.int (iI n) :: .int (iI 0) :: .ref (ω.1 b) :: .int (iI 0) :: .ref (ω.1 a) :: st) := by
  obtain ⟨p, l, e, R, s, m, args, below, meth, c⟩ := X
  obtain ⟨hx, hb, hr, hml, hown, hts, hlk0, htb, hlt, hSt, hfR, hlR, hcR, hsR⟩ := C
  intro H locs la hw hS hl
  have hea : (qWs ω.1 ω.2.1 g)[a]? = some (ω.1 a, .inl (ω.2.1 0, qAr 0 na (g a))) := by
    rw [qWs_get _ _ _ ha38]
    unfold qCe
    rw [hla]
  have heb : (qWs ω.1 ω.2.1 g)[b]? = some (ω.1 b, .inl (ω.2.1 0, qAr 0 na (g b))) := by
    rw [qWs_get _ _ _ hb38]
    unfold qCe
    rw [hlb]
  have z0 : ¬ iI 0 < 0 := by decide +kernel
  have hz : (iI 0).toNatClampNeg = 0 := by decide +kernel
  have hnt : (iI n).toNatClampNeg = n.toNat := iI_cl ⟨hn.1, by omega⟩
  have hn0 : ¬ iI n < 0 := by
    rw [iI_0, iI_lt (by omega) (by omega)]
    omega
  refine va_copyi hx hb (hml.trans hl.1.symm) hown (hts _ hlk) (hts _ hnat) (hts _ hstat) (hts _ hini) hSt.1 hw.1 hw.2.1 hS a b 0 0 hea heb rfl rfl rfl z0 z0 hn0 (by rw [hz, hnt]; omega) (by rw [hz, hnt]; omega) (fun _ _ => rfl) (by omega) (by omega) hd (fun H1 locs1 hP1 hD1 hS1 => ?_)
  have e1 : (na, Sum.inl (va_cpy (fun j : Nat => iI (g a j)) (fun j : Nat => iI (g b j)) (iI 0).toNatClampNeg (iI 0).toNatClampNeg (iI n).toNatClampNeg)) = qAr 0 na (qCp g a b n b) := by
    show (na, Sum.inl _) = (na, Sum.inl _)
    congr 2
    funext j
    unfold va_cpy
    rw [hz, hnt]
    by_cases h : 0 ≤ j ∧ j < 0 + n.toNat
    · rw [if_pos h, qCp_in (by omega) (by omega)]
      congr 2
      simp
    · rw [if_neg h, qCp_out (by omega)]
  have hset : (qWs ω.1 ω.2.1 g).set b (ω.1 b, .inl (ω.2.1 0, qAr 0 na (qCp g a b n b))) = qWs ω.1 ω.2.1 (qCp g a b n) := by
    apply List.ext_getElem?
    intro i
    by_cases hi : i = b
    · subst hi
      rw [List.getElem?_set_self (by simp [qWs]; exact hb38), qWs_get _ _ _ hb38]
      unfold qCe
      rw [hlb]
    · rw [List.getElem?_set_ne (Ne.symm hi)]
      by_cases h38 : i < 38
      · rw [qWs_get _ _ _ h38, qWs_get _ _ _ h38]
        unfold qCe
        rw [qCp_row hi]
      · rw [List.getElem?_eq_none (by simp [qWs]; omega), List.getElem?_eq_none (by simp [qWs]; omega)]
  rw [e1, hset] at hP1 hD1
  refine kk H1 locs1 la ⟨hP1, hD1, fun k' j => ?_⟩ hS1 hl
  unfold qCp
  by_cases h : k' = b ∧ 0 ≤ j ∧ j < n
  · rw [if_pos h, h.1, hrg]
    exact hw.2.2 a j
  · rw [if_neg h]
    exact hw.2.2 k' j
end QCP
theorem ml_ac : Cond.methodLink RX4 28 arraycopyName ∈ qAW := qm 669 (by decide +kernel) rfl
theorem w_acn : Cond.native arraycopyName ∈ qAW := qm 671 (by decide +kernel) rfl
theorem w_acs : Cond.static arraycopyName ∈ qAW := qm 670 (by decide +kernel) rfl
theorem w_aci : Cond.initialized "java/lang/System" ∈ qAW := qm 57 (by decide +kernel) rfl
set_option maxRecDepth 20000 in
theorem KX4_stackCount_5 (g : qHp)  : qC yX4_stackCount (.code yX4_stackCount cX4_stackCount 1 (some .int)) 0 0 (fun ad => [.ref (ad 5)]) g (qPi (fun (r : Int) (g' : qHp) => (r = (g 5 5)) ∧ g' = g)) qNo := by
  refine q_meth (by decide +kernel) rfl (fun _ => (Nat.le_of_ble_eq_true rfl)) (fun X ω C => ?_)
  refine q_nm (fun hn => ?_)
  have r5_5 : 0 ≤ g 5 5 ∧ g 5 5 ≤ 4 := hn 5 5
  refine q_loc [(0, .ref (ω.1 5))] ⟨rfl, trivial⟩ ?_
  refine q_aload_n C 0 dX4_stackCount_0 rfl rfl ?_
  refine q_geti C (b := 5) 5 5 0 4 rfl (by decide) rfl in_X4 (by decide) fl_X4_34 rfl rfl rfl dX4_stackCount_1 (fun v1 e1 l1 u1 => ?_)
  subst e1
  exact q_iretI C dX4_stackCount_4 (by omega) (by decide) (⟨by omega, rfl⟩)
set_option maxRecDepth 20000 in
theorem KX4_boxCount_5 (g : qHp)  : qC yX4_boxCount (.code yX4_boxCount cX4_boxCount 1 (some .int)) 0 0 (fun ad => [.ref (ad 5)]) g (qPi (fun (r : Int) (g' : qHp) => (r = g 5 6) ∧ g' = g)) qNo := by
  refine q_meth (by decide +kernel) rfl (fun _ => (Nat.le_of_ble_eq_true rfl)) (fun X ω C => ?_)
  refine q_nm (fun hn => ?_)
  have r5_5 : 0 ≤ g 5 5 ∧ g 5 5 ≤ 4 := hn 5 5
  refine q_loc [(0, .ref (ω.1 5))] ⟨rfl, trivial⟩ ?_
  refine q_aload_n C 0 dX4_boxCount_0 rfl rfl ?_
  refine q_geti C (b := 5) 6 6 (-2147483648) 2147483647 rfl (by decide) rfl in_X4 (by decide) fl_X4_38 rfl rfl rfl dX4_boxCount_1 (fun v1 e1 l1 u1 => ?_)
  subst e1
  exact q_iretI C dX4_boxCount_4 (by omega) (by decide) (⟨by omega, rfl⟩)
set_option maxRecDepth 20000 in
theorem KX4_hasStack_5 (g : qHp) (s : Int) (hs : -2147483648 ≤ s ∧ s < 2147483648)  : qC yX4_hasStack (.code yX4_hasStack cX4_hasStack 2 (some .boolean)) 0 0 (fun ad => [.ref (ad 5), .int (iI s)]) g (qPi (fun (r : Int) (g' : qHp) => (((0 ≤ s ∧ s < (g 5 5)) ∧ r = 1) ∨ (¬ (0 ≤ s ∧ s < (g 5 5)) ∧ r = 0)) ∧ g' = g)) qNo := by
  refine q_meth (by decide +kernel) rfl (fun _ => (Nat.le_of_ble_eq_true rfl)) (fun X ω C => ?_)
  refine q_nm (fun hn => ?_)
  have r5_5 : 0 ≤ g 5 5 ∧ g 5 5 ≤ 4 := hn 5 5
  refine q_loc [(0, .ref (ω.1 5)), (1, .int (iI s))] ⟨rfl, rfl, trivial⟩ ?_
  refine q_iload_n C 1 dX4_hasStack_0 rfl rfl ?_
  refine q_iflt C 16 dX4_hasStack_1 (by decide) (by omega) (fun c1 => ?_) (fun c1 => ?_)
  · refine q_iconst C dX4_hasStack_16 ?_
    exact q_iretZ C dX4_hasStack_17 (by omega) (by decide) (⟨by omega, rfl⟩)
  · refine q_iload_n C 1 dX4_hasStack_4 rfl rfl ?_
    refine q_aload_n C 0 dX4_hasStack_5 rfl rfl ?_
    refine q_geti C (b := 5) 5 5 0 4 rfl (by decide) rfl in_X4 (by decide) fl_X4_34 rfl rfl rfl dX4_hasStack_6 (fun v6 e6 l6 u6 => ?_)
    refine q_icmp_ge C 16 dX4_hasStack_9 (by decide) (by omega) (by omega) (fun c9 => ?_) (fun c9 => ?_)
    · refine q_iconst C dX4_hasStack_16 ?_
      subst e6
      exact q_iretZ C dX4_hasStack_17 (by omega) (by decide) (⟨by omega, rfl⟩)
    · refine q_iconst C dX4_hasStack_12 ?_
      refine q_goto C 17 dX4_hasStack_13 (by decide) ?_
      subst e6
      exact q_iretZ C dX4_hasStack_17 (by omega) (by decide) (⟨by omega, rfl⟩)
set_option maxRecDepth 20000 in
theorem KX4_heightOf_5 (g : qHp) (s : Int) (hs : -2147483648 ≤ s ∧ s < 2147483648)  : qC yX4_heightOf (.code yX4_heightOf cX4_heightOf 2 (some .int)) 0 0 (fun ad => [.ref (ad 5), .int (iI s)]) g (qPi (fun (r : Int) (g' : qHp) => (r = yHt (g 5 5) (g 7) s) ∧ g' = g)) qNo := by
  refine q_meth (by decide +kernel) rfl (fun _ => (Nat.le_of_ble_eq_true rfl)) (fun X ω C => ?_)
  refine q_nm (fun hn => ?_)
  have r5_5 : 0 ≤ g 5 5 ∧ g 5 5 ≤ 4 := hn 5 5
  refine q_loc [(0, .ref (ω.1 5)), (1, .int (iI s))] ⟨rfl, rfl, trivial⟩ ?_
  refine q_iload_n C 1 dX4_heightOf_0 rfl rfl ?_
  refine q_iflt C 21 dX4_heightOf_1 (by decide) (by omega) (fun c1 => ?_) (fun c1 => ?_)
  · refine q_iconst C dX4_heightOf_21 ?_
    exact q_iretI C dX4_heightOf_22 (by omega) (by decide) (⟨by unfold yHt; first | rw [if_pos (by omega)] | rw [if_neg (by omega)], rfl⟩)
  · refine q_iload_n C 1 dX4_heightOf_4 rfl rfl ?_
    refine q_aload_n C 0 dX4_heightOf_5 rfl rfl ?_
    refine q_geti C (b := 5) 5 5 0 4 rfl (by decide) rfl in_X4 (by decide) fl_X4_34 rfl rfl rfl dX4_heightOf_6 (fun v6 e6 l6 u6 => ?_)
    refine q_icmp_ge C 21 dX4_heightOf_9 (by decide) (by omega) (by omega) (fun c9 => ?_) (fun c9 => ?_)
    · refine q_iconst C dX4_heightOf_21 ?_
      subst e6
      exact q_iretI C dX4_heightOf_22 (by omega) (by decide) (⟨by unfold yHt; first | rw [if_pos (by omega)] | rw [if_neg (by omega)], rfl⟩)
    · refine q_aload_n C 0 dX4_heightOf_12 rfl rfl ?_
      refine q_getr C (b := 5) 2 rfl (by decide) rfl in_X4 (by decide) fl_X4_15 rfl dX4_heightOf_13 ?_
      refine q_iload_n C 1 dX4_heightOf_16 rfl rfl ?_
      refine q_iald C (b := 7) (n := 4) 0 4 rfl (by decide) (by decide) (by omega) (fun _ => rfl) dX4_heightOf_17 (fun v17 e17 l17 u17 => ?_)
      refine q_goto C 22 dX4_heightOf_18 (by decide) ?_
      subst e17 e6
      exact q_iretI C dX4_heightOf_22 (by omega) (by decide) (⟨by unfold yHt; first | rw [if_pos (by omega)] | rw [if_neg (by omega)], rfl⟩)
set_option maxRecDepth 20000 in
theorem KX4_isFull_5 (g : qHp) (s : Int) (hs : -2147483648 ≤ s ∧ s < 2147483648)  : qC yX4_isFull (.code yX4_isFull cX4_isFull 2 (some .boolean)) 0 0 (fun ad => [.ref (ad 5), .int (iI s)]) g (qPi (fun (r : Int) (g' : qHp) => (((s < 0 ∨ (g 5 5) ≤ s ∨ (g 6) s ≤ (g 7) s) ∧ r = 1) ∨ (¬ (s < 0 ∨ (g 5 5) ≤ s ∨ (g 6) s ≤ (g 7) s) ∧ r = 0)) ∧ g' = g)) qNo := by
  refine q_meth (by decide +kernel) rfl (fun _ => (Nat.le_of_ble_eq_true rfl)) (fun X ω C => ?_)
  refine q_nm (fun hn => ?_)
  have r5_5 : 0 ≤ g 5 5 ∧ g 5 5 ≤ 4 := hn 5 5
  refine q_loc [(0, .ref (ω.1 5)), (1, .int (iI s))] ⟨rfl, rfl, trivial⟩ ?_
  refine q_iload_n C 1 dX4_isFull_0 rfl rfl ?_
  refine q_iflt C 27 dX4_isFull_1 (by decide) (by omega) (fun c1 => ?_) (fun c1 => ?_)
  · refine q_iconst C dX4_isFull_27 ?_
    refine q_goto C 32 dX4_isFull_28 (by decide) ?_
    exact q_iretZ C dX4_isFull_32 (by omega) (by decide) (⟨by omega, rfl⟩)
  · refine q_iload_n C 1 dX4_isFull_4 rfl rfl ?_
    refine q_aload_n C 0 dX4_isFull_5 rfl rfl ?_
    refine q_geti C (b := 5) 5 5 0 4 rfl (by decide) rfl in_X4 (by decide) fl_X4_34 rfl rfl rfl dX4_isFull_6 (fun v6 e6 l6 u6 => ?_)
    refine q_icmp_ge C 27 dX4_isFull_9 (by decide) (by omega) (by omega) (fun c9 => ?_) (fun c9 => ?_)
    · refine q_iconst C dX4_isFull_27 ?_
      refine q_goto C 32 dX4_isFull_28 (by decide) ?_
      subst e6
      exact q_iretZ C dX4_isFull_32 (by omega) (by decide) (⟨by omega, rfl⟩)
    · refine q_aload_n C 0 dX4_isFull_12 rfl rfl ?_
      refine q_getr C (b := 5) 2 rfl (by decide) rfl in_X4 (by decide) fl_X4_15 rfl dX4_isFull_13 ?_
      refine q_iload_n C 1 dX4_isFull_16 rfl rfl ?_
      refine q_iald C (b := 7) (n := 4) 0 4 rfl (by decide) (by decide) (by omega) (fun _ => rfl) dX4_isFull_17 (fun v17 e17 l17 u17 => ?_)
      refine q_aload_n C 0 dX4_isFull_18 rfl rfl ?_
      refine q_getr C (b := 5) 1 rfl (by decide) rfl in_X4 (by decide) fl_X4_9 rfl dX4_isFull_19 ?_
      refine q_iload_n C 1 dX4_isFull_22 rfl rfl ?_
      refine q_iald C (b := 6) (n := 4) 0 4 rfl (by decide) (by decide) (by omega) (fun _ => rfl) dX4_isFull_23 (fun v23 e23 l23 u23 => ?_)
      refine q_icmp_lt C 31 dX4_isFull_24 (by decide) (by omega) (by omega) (fun c24 => ?_) (fun c24 => ?_)
      · refine q_iconst C dX4_isFull_31 ?_
        subst e23 e17 e6
        exact q_iretZ C dX4_isFull_32 (by omega) (by decide) (⟨by omega, rfl⟩)
      · refine q_iconst C dX4_isFull_27 ?_
        refine q_goto C 32 dX4_isFull_28 (by decide) ?_
        subst e23 e17 e6
        exact q_iretZ C dX4_isFull_32 (by omega) (by decide) (⟨by omega, rfl⟩)
set_option maxRecDepth 20000 in
theorem KX4_topOf_5 (g : qHp) (s : Int) (hs : -2147483648 ≤ s ∧ s < 2147483648)  : qC yX4_topOf (.code yX4_topOf cX4_topOf 2 (some .int)) 0 0 (fun ad => [.ref (ad 5), .int (iI s)]) g (qPi (fun (r : Int) (g' : qHp) => (r = yTop (g 5 5) (g 7) (g 8) s) ∧ g' = g)) qNo := by
  refine q_meth (by decide +kernel) rfl (fun _ => (Nat.le_of_ble_eq_true rfl)) (fun X ω C => ?_)
  refine q_nm (fun hn => ?_)
  have r5_5 : 0 ≤ g 5 5 ∧ g 5 5 ≤ 4 := hn 5 5
  refine q_loc [(0, .ref (ω.1 5)), (1, .int (iI s))] ⟨rfl, rfl, trivial⟩ ?_
  refine q_iload_n C 1 dX4_topOf_0 rfl rfl ?_
  refine q_iflt C 21 dX4_topOf_1 (by decide) (by omega) (fun c1 => ?_) (fun c1 => ?_)
  · refine q_iconst C dX4_topOf_21 ?_
    exact q_iretI C dX4_topOf_22 (by omega) (by decide) (⟨by unfold yTop; first | rw [if_pos (by omega)] | rw [if_neg (by omega)], rfl⟩)
  · refine q_iload_n C 1 dX4_topOf_4 rfl rfl ?_
    refine q_aload_n C 0 dX4_topOf_5 rfl rfl ?_
    refine q_geti C (b := 5) 5 5 0 4 rfl (by decide) rfl in_X4 (by decide) fl_X4_34 rfl rfl rfl dX4_topOf_6 (fun v6 e6 l6 u6 => ?_)
    refine q_icmp_ge C 21 dX4_topOf_9 (by decide) (by omega) (by omega) (fun c9 => ?_) (fun c9 => ?_)
    · refine q_iconst C dX4_topOf_21 ?_
      subst e6
      exact q_iretI C dX4_topOf_22 (by omega) (by decide) (⟨by unfold yTop; first | rw [if_pos (by omega)] | rw [if_neg (by omega)], rfl⟩)
    · refine q_aload_n C 0 dX4_topOf_12 rfl rfl ?_
      refine q_getr C (b := 5) 2 rfl (by decide) rfl in_X4 (by decide) fl_X4_15 rfl dX4_topOf_13 ?_
      refine q_iload_n C 1 dX4_topOf_16 rfl rfl ?_
      refine q_iald C (b := 7) (n := 4) 0 4 rfl (by decide) (by decide) (by omega) (fun _ => rfl) dX4_topOf_17 (fun v17 e17 l17 u17 => ?_)
      refine q_ifne C 23 dX4_topOf_18 (by decide) (by omega) (fun c18 => ?_) (fun c18 => ?_)
      · refine q_aload_n C 0 dX4_topOf_23 rfl rfl ?_
        refine q_getr C (b := 5) 3 rfl (by decide) rfl in_X4 (by decide) fl_X4_18 rfl dX4_topOf_24 ?_
        refine q_iload_n C 1 dX4_topOf_27 rfl rfl ?_
        refine q_iconst C dX4_topOf_28 ?_
        refine q_imul C dX4_topOf_29 ?_
        refine q_aload_n C 0 dX4_topOf_30 rfl rfl ?_
        refine q_getr C (b := 5) 2 rfl (by decide) rfl in_X4 (by decide) fl_X4_15 rfl dX4_topOf_31 ?_
        refine q_iload_n C 1 dX4_topOf_34 rfl rfl ?_
        refine q_iald C (b := 7) (n := 4) 0 4 rfl (by decide) (by decide) (by omega) (fun _ => rfl) dX4_topOf_35 (fun v35 e35 l35 u35 => ?_)
        refine q_iadd C dX4_topOf_36 ?_
        refine q_iconst C dX4_topOf_37 ?_
        refine q_isub C dX4_topOf_38 ?_
        refine q_iald C (b := 8) (n := 16) 0 19 rfl (by decide) (by decide) (by omega) (fun _ => rfl) dX4_topOf_39 (fun v39 e39 l39 u39 => ?_)
        subst e39 e35 e17 e6
        exact q_iretI C dX4_topOf_40 (by omega) (by decide) (⟨by unfold yTop; first | rw [if_pos (by omega)] | rw [if_neg (by omega)], rfl⟩)
      · refine q_iconst C dX4_topOf_21 ?_
        subst e17 e6
        exact q_iretI C dX4_topOf_22 (by omega) (by decide) (⟨by unfold yTop; first | rw [if_pos (by omega)] | rw [if_neg (by omega)], rfl⟩)
set_option maxRecDepth 20000 in
theorem KX4_stackWith_5 (g : qHp) (x : Int) (hx : -2147483648 ≤ x ∧ x < 2147483648)  : qC yX4_stackWith (.code yX4_stackWith cX4_stackWith 2 (some .int)) 0 0 (fun ad => [.ref (ad 5), .int (iI x)]) g (qPi (fun (r : Int) (g' : qHp) => (r = ySt (g 9) x) ∧ g' = g)) qNo := by
  refine q_meth (by decide +kernel) rfl (fun _ => (Nat.le_of_ble_eq_true rfl)) (fun X ω C => ?_)
  refine q_nm (fun hn => ?_)
  have r5_5 : 0 ≤ g 5 5 ∧ g 5 5 ≤ 4 := hn 5 5
  refine q_loc [(0, .ref (ω.1 5)), (1, .int (iI x))] ⟨rfl, rfl, trivial⟩ ?_
  refine q_iload_n C 1 dX4_stackWith_0 rfl rfl ?_
  refine q_iflt C 19 dX4_stackWith_1 (by decide) (by omega) (fun c1 => ?_) (fun c1 => ?_)
  · refine q_iconst C dX4_stackWith_19 ?_
    exact q_iretI C dX4_stackWith_20 (by omega) (by decide) (⟨by unfold ySt; first | rw [if_pos (by omega)] | rw [if_neg (by omega)], rfl⟩)
  · refine q_iload_n C 1 dX4_stackWith_4 rfl rfl ?_
    refine q_bipush C dX4_stackWith_5 (by decide +kernel) ?_
    refine q_icmp_ge C 19 dX4_stackWith_7 (by decide) (by omega) (by omega) (fun c7 => ?_) (fun c7 => ?_)
    · refine q_iconst C dX4_stackWith_19 ?_
      exact q_iretI C dX4_stackWith_20 (by omega) (by decide) (⟨by unfold ySt; first | rw [if_pos (by omega)] | rw [if_neg (by omega)], rfl⟩)
    · refine q_aload_n C 0 dX4_stackWith_10 rfl rfl ?_
      refine q_getr C (b := 5) 4 rfl (by decide) rfl in_X4 (by decide) fl_X4_21 rfl dX4_stackWith_11 ?_
      refine q_iload_n C 1 dX4_stackWith_14 rfl rfl ?_
      refine q_iald C (b := 9) (n := 20) (-1) 3 rfl (by decide) (by decide) (by omega) (fun _ => rfl) dX4_stackWith_15 (fun v15 e15 l15 u15 => ?_)
      refine q_goto C 20 dX4_stackWith_16 (by decide) ?_
      subst e15
      exact q_iretI C dX4_stackWith_20 (by omega) (by decide) (⟨by unfold ySt; first | rw [if_pos (by omega)] | rw [if_neg (by omega)], rfl⟩)
set_option maxRecDepth 20000 in
theorem KX4_boxOn_5 (g : qHp) (s : Int) (hs : -2147483648 ≤ s ∧ s < 2147483648) (k : Int) (hk : -2147483648 ≤ k ∧ k < 2147483648)  : qC yX4_boxOn (.code yX4_boxOn cX4_boxOn 3 (some .int)) 1 0 (fun ad => [.ref (ad 5), .int (iI s), .int (iI k)]) g (qPi (fun (r : Int) (g' : qHp) => (r = yAt (g 5 5) (g 7) (g 8) s k) ∧ g' = g)) qNo := by
  refine q_meth (by decide +kernel) rfl (fun _ => (Nat.le_of_ble_eq_true rfl)) (fun X ω C => ?_)
  refine q_nm (fun hn => ?_)
  have r5_5 : 0 ≤ g 5 5 ∧ g 5 5 ≤ 4 := hn 5 5
  refine q_loc [(0, .ref (ω.1 5)), (1, .int (iI s)), (2, .int (iI k))] ⟨rfl, rfl, rfl, trivial⟩ ?_
  refine q_iload_n C 2 dX4_boxOn_0 rfl rfl ?_
  refine q_iflt C 13 dX4_boxOn_1 (by decide) (by omega) (fun c1 => ?_) (fun c1 => ?_)
  · refine q_iconst C dX4_boxOn_13 ?_
    
    exact q_iretI C dX4_boxOn_14 (by omega) (by decide) ⟨by unfold yAt; rw [if_neg (by omega)], rfl⟩
  · refine q_iload_n C 2 dX4_boxOn_4 rfl rfl ?_
    refine q_aload_n C 0 dX4_boxOn_5 rfl rfl ?_
    refine q_iload_n C 1 dX4_boxOn_6 rfl rfl ?_
    refine q_Vf0 C (KX4_heightOf_5 _ _ (by omega)) mX4_heightOf ml_X4_50 dX4_boxOn_7 (by decide) (by decide) rfl rfl rfl (Nat.le_of_ble_eq_true rfl) rfl (by decide) rfl rfl (fun v7 l7 u7 h7 => ?_)
    refine q_icmp_lt C 15 dX4_boxOn_10 (by decide) (by omega) (by omega) (fun c10 => ?_) (fun c10 => ?_)
    · refine q_aload_n C 0 dX4_boxOn_15 rfl rfl ?_
      have hs5 : 0 ≤ s ∧ s < (g 5 5) ∧ yHt (g 5 5) (g 7) s = (g 7) s := by
        unfold yHt at h7 ⊢
        by_cases q : 0 ≤ s ∧ s < (g 5 5)
        · rw [if_pos q]; exact ⟨q.1, q.2, rfl⟩
        · rw [if_neg q] at h7; omega
      have hr5 : (g 7) s ≤ 4 := (hn 7 s).2
      refine q_getr C (b := 5) 3 rfl (by decide) rfl in_X4 (by decide) fl_X4_18 rfl dX4_boxOn_16 ?_
      refine q_iload_n C 1 dX4_boxOn_19 rfl rfl ?_
      refine q_iconst C dX4_boxOn_20 ?_
      refine q_imul C dX4_boxOn_21 ?_
      refine q_iload_n C 2 dX4_boxOn_22 rfl rfl ?_
      refine q_iadd C dX4_boxOn_23 ?_
      refine q_iald C (b := 8) (n := 16) 0 19 rfl (by decide) (by decide) (by omega) (fun _ => rfl) dX4_boxOn_24 (fun v24 e24 l24 u24 => ?_)
      subst e24
      exact q_iretI C dX4_boxOn_25 (by omega) (by decide) ⟨by unfold yAt; rw [if_pos (by omega)], rfl⟩
    · refine q_iconst C dX4_boxOn_13 ?_
      
      exact q_iretI C dX4_boxOn_14 (by omega) (by decide) ⟨by unfold yAt; rw [if_neg (by omega)], rfl⟩
set_option maxRecDepth 20000 in
theorem KX4_bears_5 (g : qHp) (t : Int) (ht : -2147483648 ≤ t ∧ t < 2147483648) (w : Int) (hw : -2147483648 ≤ w ∧ w < 2147483648)  : qC yX4_bears (.code yX4_bears cX4_bears 4 (some .boolean)) 1 0 (fun ad => [.ref (ad 5), .int (iI t), .int (iI w)]) g (qPi (fun (r : Int) (g' : qHp) => ((yBears g (g 5 5) (g 7) (g 8) t w ∧ r = 1) ∨ (¬ yBears g (g 5 5) (g 7) (g 8) t w ∧ r = 0)) ∧ g' = g)) qNo := by
  refine q_meth (by decide +kernel) rfl (fun _ => (Nat.le_of_ble_eq_true rfl)) (fun X ω C => ?_)
  refine q_nm (fun hn => ?_)
  have r5_5 : 0 ≤ g 5 5 ∧ g 5 5 ≤ 4 := hn 5 5
  refine q_loc [(0, .ref (ω.1 5)), (1, .int (iI t)), (2, .int (iI w))] ⟨rfl, rfl, rfl, trivial⟩ ?_
  refine q_aload_n C 0 dX4_bears_0 rfl rfl ?_
  refine q_iload_n C 1 dX4_bears_1 rfl rfl ?_
  refine q_Vf0 C (KX4_topOf_5 _ _ (by omega)) mX4_topOf ml_X4_41 dX4_bears_2 (by decide) (by decide) rfl rfl rfl (Nat.le_of_ble_eq_true rfl) rfl (by decide) rfl rfl (fun v2 l2 u2 h2 => ?_)
  refine q_istoreV_n C 3 dX4_bears_5 rfl (by decide) (fun v5 e5 => ?_)
  refine q_iload_n C 3 dX4_bears_6 rfl rfl ?_
  refine q_iconst C dX4_bears_7 ?_
  refine q_icmp_eq C 23 dX4_bears_8 (by decide) (by omega) (by omega) (fun c8 => ?_) (fun c8 => ?_)
  · refine q_iconst C dX4_bears_23 ?_
    refine q_goto C 28 dX4_bears_24 (by decide) ?_
    subst e5
    exact q_iretZ C dX4_bears_28 (by omega) (by decide) (⟨by subst h2; unfold yBears; omega, rfl⟩)
  · refine q_aload_n C 0 dX4_bears_11 rfl rfl ?_
    refine q_getr C (b := 5) 0 rfl (by decide) rfl in_X4 (by decide) fl_X4_24 rfl dX4_bears_12 ?_
    refine q_iload_n C 3 dX4_bears_15 rfl rfl ?_
    refine q_Vf0 C (KX0_weightOf _ _ (by omega)) mX0_weightOf ml_X4_45 dX4_bears_16 (by decide) (by decide) rfl rfl rfl (Nat.le_of_ble_eq_true rfl) rfl (by decide) rfl rfl (fun v16 l16 u16 h16 => ?_)
    refine q_iload_n C 2 dX4_bears_19 rfl rfl ?_
    refine q_icmp_lt C 27 dX4_bears_20 (by decide) (by omega) (by omega) (fun c20 => ?_) (fun c20 => ?_)
    · refine q_iconst C dX4_bears_27 ?_
      subst e5
      exact q_iretZ C dX4_bears_28 (by omega) (by decide) (⟨by subst h2; unfold yBears; omega, rfl⟩)
    · refine q_iconst C dX4_bears_23 ?_
      refine q_goto C 28 dX4_bears_24 (by decide) ?_
      subst e5
      exact q_iretZ C dX4_bears_28 (by omega) (by decide) (⟨by subst h2; unfold yBears; omega, rfl⟩)
set_option maxRecDepth 20000 in
theorem KX4_boxesUnder_5 (g : qHp) (x : Int) (hx : -2147483648 ≤ x ∧ x < 2147483648)  : qC yX4_boxesUnder (.code yX4_boxesUnder cX4_boxesUnder 4 (some .int)) 2 0 (fun ad => [.ref (ad 5), .int (iI x)]) g (qPi (fun (r : Int) (g' : qHp) => (r = yUnd (g 5 5) (g 7) (g 8) (g 9) x ∧ 0 ≤ r ∧ r ≤ yHt (g 5 5) (g 7) (ySt (g 9) x)) ∧ g' = g)) qNo := by
  refine q_meth (by decide +kernel) rfl (fun _ => (Nat.le_of_ble_eq_true rfl)) (fun X ω C => ?_)
  refine q_nm (fun hn => ?_)
  have r5_5 : 0 ≤ g 5 5 ∧ g 5 5 ≤ 4 := hn 5 5
  refine q_loc [(0, .ref (ω.1 5)), (1, .int (iI x))] ⟨rfl, rfl, trivial⟩ ?_
  refine q_aload_n C 0 dX4_boxesUnder_0 rfl rfl ?_
  refine q_iload_n C 1 dX4_boxesUnder_1 rfl rfl ?_
  refine q_Vf0 C (KX4_stackWith_5 _ _ (by omega)) mX4_stackWith ml_X4_53 dX4_boxesUnder_2 (by decide) (by decide) rfl rfl rfl (Nat.le_of_ble_eq_true rfl) rfl (by decide) rfl rfl (fun v2 l2 u2 h2 => ?_)
  refine q_istoreV_n C 2 dX4_boxesUnder_5 rfl (by decide) (fun v5 e5 => ?_)
  refine q_iconst C dX4_boxesUnder_6 ?_
  refine q_istoreV_n C 3 dX4_boxesUnder_7 rfl (by decide) (fun v7 e7 => ?_)
  have hq5 : 0 ≤ yHt (g 5 5) (g 7) v5 ∧ yHt (g 5 5) (g 7) v5 ≤ 4 := by
    have q := hn 7 v5
    have q1 : 0 ≤ (g 7) v5 := q.1
    have q2 : (g 7) v5 ≤ 4 := q.2
    unfold yHt; split <;> omega
  have loop : ∀ (n : Nat) (i : Int), ((yHt (g 5 5) (g 7) v5 - i) < (n : Int)) → (0 ≤ i) → (i ≤ yHt (g 5 5) (g 7) v5) → (fstI (fun k => decide (yAt (g 5 5) (g 7) (g 8) v5 k = x)) (yHt (g 5 5) (g 7) v5).toNat 0 = fstI (fun k => decide (yAt (g 5 5) (g 7) (g 8) v5 k = x)) (yHt (g 5 5) (g 7) v5 - i).toNat i) → qT X ω 4 0 (qEnd X ω (qPi (fun (r : Int) (g' : qHp) => (r = yUnd (g 5 5) (g 7) (g 8) (g 9) x ∧ 0 ≤ r ∧ r ≤ yHt (g 5 5) (g 7) (ySt (g 9) x)) ∧ g' = g)) qNo 0) g 8 [(0, .ref (ω.1 5)), (1, .int (iI x)), (2, .int (iI v5)), (3, .int (iI i))] [] := by
    intro n
    induction n with
    | zero => intro i hm hi hi2 hm2; exfalso; omega
    | succ n ih =>
      intro i hm hi hi2 hm2
      refine q_iload_n C 3 dX4_boxesUnder_8 rfl rfl ?_
      refine q_aload_n C 0 dX4_boxesUnder_9 rfl rfl ?_
      refine q_iload_n C 2 dX4_boxesUnder_10 rfl rfl ?_
      refine q_Vf0 C (KX4_heightOf_5 _ _ (by omega)) mX4_heightOf ml_X4_50 dX4_boxesUnder_11 (by decide) (by decide) rfl rfl rfl (Nat.le_of_ble_eq_true rfl) rfl (by decide) rfl rfl (fun v11 l11 u11 h11 => ?_)
      refine q_icmp_ge C 33 dX4_boxesUnder_14 (by decide) (by omega) (by omega) (fun c14 => ?_) (fun c14 => ?_)
      · refine q_iload_n C 3 dX4_boxesUnder_33 rfl rfl ?_
        refine q_iretI C dX4_boxesUnder_34 (by omega) (by decide) ⟨⟨?_, hi, ?_⟩, rfl⟩
        · subst e5
          subst h2
          unfold yUnd
          rw [hm2]
          rw [show (yHt (g 5 5) (g 7) (ySt (g 9) x) - i).toNat = 0 by omega]
          rfl
        · subst e5
          subst h2
          exact hi2
      · refine q_aload_n C 0 dX4_boxesUnder_17 rfl rfl ?_
        refine q_iload_n C 2 dX4_boxesUnder_18 rfl rfl ?_
        refine q_iload_n C 3 dX4_boxesUnder_19 rfl rfl ?_
        refine q_Vf0 C (KX4_boxOn_5 _ _ (by omega) _ (by omega)) mX4_boxOn ml_X4_56 dX4_boxesUnder_20 (by decide) (by decide) rfl rfl rfl (Nat.le_of_ble_eq_true rfl) rfl (by decide) rfl rfl (fun v20 l20 u20 h20 => ?_)
        refine q_iload_n C 1 dX4_boxesUnder_23 rfl rfl ?_
        refine q_icmp_eq C 33 dX4_boxesUnder_24 (by decide) (by omega) (by omega) (fun c24 => ?_) (fun c24 => ?_)
        · refine q_iload_n C 3 dX4_boxesUnder_33 rfl rfl ?_
          refine q_iretI C dX4_boxesUnder_34 (by omega) (by decide) ⟨⟨?_, hi, ?_⟩, rfl⟩
          · subst e5
            subst h2
            unfold yUnd
            rw [hm2]
            rw [show (yHt (g 5 5) (g 7) (ySt (g 9) x) - i).toNat = ((yHt (g 5 5) (g 7) (ySt (g 9) x) - i).toNat - 1) + 1 by omega, fstI_t (decide_eq_true (by omega))]
          · subst e5
            subst h2
            exact hi2
        · refine q_iinc C dX4_boxesUnder_27 rfl (by decide) (fun v27 e27 => ?_)
          refine q_goto C 8 dX4_boxesUnder_30 (by decide) ?_
          refine q_loc [(0, .ref (ω.1 5)), (1, .int (iI x)), (2, .int (iI v5)), (3, .int (iI v27))] ⟨rfl, rfl, rfl, rfl, trivial⟩ ?_
          exact ih v27 (by omega) (by omega) (by omega) (by subst e27; exact fstI_next (p := fun k => decide (yAt (g 5 5) (g 7) (g 8) v5 k = x)) (by omega) (decide_eq_false (by omega)) hm2)
  refine q_loc [(0, .ref (ω.1 5)), (1, .int (iI x)), (2, .int (iI v5)), (3, .int (iI v7))] ⟨rfl, rfl, rfl, rfl, trivial⟩ ?_
  exact loop ((yHt (g 5 5) (g 7) v5 - v7).toNat + 1) v7 (by omega) (by omega) (by omega) (by rw [e7, Int.sub_zero])
set_option maxRecDepth 20000 in
theorem KX4_boxesOver_5 (g : qHp) (x : Int) (hx : -2147483648 ≤ x ∧ x < 2147483648)  : qC yX4_boxesOver (.code yX4_boxesOver cX4_boxesOver 3 (some .int)) 3 0 (fun ad => [.ref (ad 5), .int (iI x)]) g (qPi (fun (r : Int) (g' : qHp) => (r = yOvr (g 5 5) (g 7) (g 8) (g 9) x ∧ -1 ≤ r ∧ r ≤ 3) ∧ g' = g)) qNo := by
  refine q_meth (by decide +kernel) rfl (fun _ => (Nat.le_of_ble_eq_true rfl)) (fun X ω C => ?_)
  refine q_nm (fun hn => ?_)
  have r5_5 : 0 ≤ g 5 5 ∧ g 5 5 ≤ 4 := hn 5 5
  have hq5 : ∀ v, 0 ≤ yHt (g 5 5) (g 7) v ∧ yHt (g 5 5) (g 7) v ≤ 4 := by
    intro v
    have q := hn 7 v
    have q1 : 0 ≤ (g 7) v := q.1
    have q2 : (g 7) v ≤ 4 := q.2
    unfold yHt; split <;> omega
  refine q_loc [(0, .ref (ω.1 5)), (1, .int (iI x))] ⟨rfl, rfl, trivial⟩ ?_
  refine q_aload_n C 0 dX4_boxesOver_0 rfl rfl ?_
  refine q_iload_n C 1 dX4_boxesOver_1 rfl rfl ?_
  refine q_Vf0 C (KX4_stackWith_5 _ _ (by omega)) mX4_stackWith ml_X4_53 dX4_boxesOver_2 (by decide) (by decide) rfl rfl rfl (Nat.le_of_ble_eq_true rfl) rfl (by decide) rfl rfl (fun v2 l2 u2 h2 => ?_)
  refine q_istoreV_n C 2 dX4_boxesOver_5 rfl (by decide) (fun v5 e5 => ?_)
  refine q_iload_n C 2 dX4_boxesOver_6 rfl rfl ?_
  refine q_iconst C dX4_boxesOver_7 ?_
  refine q_icmp_ne C 15 dX4_boxesOver_8 (by decide) (by omega) (by omega) (fun c8 => ?_) (fun c8 => ?_)
  · refine q_aload_n C 0 dX4_boxesOver_15 rfl rfl ?_
    refine q_iload_n C 2 dX4_boxesOver_16 rfl rfl ?_
    have hq6 := hq5 v5
    refine q_Vf0 C (KX4_heightOf_5 _ _ (by omega)) mX4_heightOf ml_X4_50 dX4_boxesOver_17 (by decide) (by decide) rfl rfl rfl (Nat.le_of_ble_eq_true rfl) rfl (by decide) rfl rfl (fun v17 l17 u17 h17 => ?_)
    refine q_iconst C dX4_boxesOver_20 ?_
    refine q_isub C dX4_boxesOver_21 ?_
    refine q_aload_n C 0 dX4_boxesOver_22 rfl rfl ?_
    refine q_iload_n C 1 dX4_boxesOver_23 rfl rfl ?_
    refine q_Vf0 C (KX4_boxesUnder_5 _ _ (by omega)) mX4_boxesUnder ml_X4_60 dX4_boxesOver_24 (by decide) (by decide) rfl rfl rfl (Nat.le_of_ble_eq_true rfl) rfl (by decide) rfl rfl (fun v24 l24 u24 h24 => ?_)
    refine q_isub C dX4_boxesOver_27 ?_
    subst e5
    subst h2
    refine q_iretI C dX4_boxesOver_28 (by omega) (by decide) ⟨⟨?_, by omega, by omega⟩, rfl⟩
    unfold yOvr
    obtain ⟨h24, -⟩ := h24
    rw [if_neg (by omega), ← h24, ← h17]
  · refine q_iconst C dX4_boxesOver_11 ?_
    refine q_goto C 28 dX4_boxesOver_12 (by decide) ?_
    subst e5
    subst h2
    refine q_iretI C dX4_boxesOver_28 (by omega) (by decide) ⟨⟨?_, by omega, by omega⟩, rfl⟩
    unfold yOvr
    rw [if_pos (by omega)]
set_option maxRecDepth 20000 in
theorem KX4_pinnedOver_5 (g : qHp) (x : Int) (hx : -2147483648 ≤ x ∧ x < 2147483648)  : qC yX4_pinnedOver (.code yX4_pinnedOver cX4_pinnedOver 5 (some .int)) 3 0 (fun ad => [.ref (ad 5), .int (iI x)]) g (qPi (fun (r : Int) (g' : qHp) => (r = yPin g (g 5 5) (g 7) (g 8) (g 9) x) ∧ g' = g)) qNo := by
  refine q_meth (by decide +kernel) rfl (fun _ => (Nat.le_of_ble_eq_true rfl)) (fun X ω C => ?_)
  refine q_nm (fun hn => ?_)
  have r5_5 : 0 ≤ g 5 5 ∧ g 5 5 ≤ 4 := hn 5 5
  refine q_loc [(0, .ref (ω.1 5)), (1, .int (iI x))] ⟨rfl, rfl, trivial⟩ ?_
  refine q_aload_n C 0 dX4_pinnedOver_0 rfl rfl ?_
  refine q_iload_n C 1 dX4_pinnedOver_1 rfl rfl ?_
  refine q_Vf0 C (KX4_stackWith_5 _ _ (by omega)) mX4_stackWith ml_X4_53 dX4_pinnedOver_2 (by decide) (by decide) rfl rfl rfl (Nat.le_of_ble_eq_true rfl) rfl (by decide) rfl rfl (fun v2 l2 u2 h2 => ?_)
  refine q_istoreV_n C 2 dX4_pinnedOver_5 rfl (by decide) (fun v5 e5 => ?_)
  refine q_iconst C dX4_pinnedOver_6 ?_
  refine q_istoreV_n C 3 dX4_pinnedOver_7 rfl (by decide) (fun v7 e7 => ?_)
  refine q_aload_n C 0 dX4_pinnedOver_8 rfl rfl ?_
  refine q_iload_n C 1 dX4_pinnedOver_9 rfl rfl ?_
  refine q_Vf0 C (KX4_boxesUnder_5 _ _ (by omega)) mX4_boxesUnder ml_X4_60 dX4_pinnedOver_10 (by decide) (by decide) rfl rfl rfl (Nat.le_of_ble_eq_true rfl) rfl (by decide) rfl rfl (fun v10 l10 u10 h10 => ?_)
  refine q_iconst C dX4_pinnedOver_13 ?_
  refine q_iadd C dX4_pinnedOver_14 ?_
  refine q_istoreV C dX4_pinnedOver_15 (by decide) (fun v15 e15 => ?_)
  have hq5 : 0 ≤ yHt (g 5 5) (g 7) v5 ∧ yHt (g 5 5) (g 7) v5 ≤ 4 := by
    have q := hn 7 v5
    have q1 : 0 ≤ (g 7) v5 := q.1
    have q2 : (g 7) v5 ≤ 4 := q.2
    unfold yHt; split <;> omega
  have loop : ∀ (n : Nat) (q : Int) (i : Int), ((yHt (g 5 5) (g 7) v5 + 1 - i) < (n : Int)) → (v15 ≤ i) → (i ≤ yHt (g 5 5) (g 7) v5 + 1) → (0 ≤ q ∧ q ≤ i) → (cntF (fun k => pinB g (yAt (g 5 5) (g 7) (g 8) v5 k)) (yHt (g 5 5) (g 7) v5 - v15).toNat v15 = q + cntF (fun k => pinB g (yAt (g 5 5) (g 7) (g 8) v5 k)) (yHt (g 5 5) (g 7) v5 - i).toNat i) → qT X ω 5 0 (qEnd X ω (qPi (fun (r : Int) (g' : qHp) => (r = yPin g (g 5 5) (g 7) (g 8) (g 9) x) ∧ g' = g)) qNo 0) g 17 [(0, .ref (ω.1 5)), (1, .int (iI x)), (2, .int (iI v5)), (3, .int (iI q)), (4, .int (iI i))] [] := by
    intro n
    induction n with
    | zero => intro q i hm hi hi2 hq hm2; exfalso; omega
    | succ n ih =>
      intro q i hm hi hi2 hq hm2
      refine q_iload C dX4_pinnedOver_17 rfl ?_
      refine q_aload_n C 0 dX4_pinnedOver_19 rfl rfl ?_
      refine q_iload_n C 2 dX4_pinnedOver_20 rfl rfl ?_
      refine q_Vf0 C (KX4_heightOf_5 _ _ (by omega)) mX4_heightOf ml_X4_50 dX4_pinnedOver_21 (by decide) (by decide) rfl rfl rfl (Nat.le_of_ble_eq_true rfl) rfl (by decide) rfl rfl (fun v21 l21 u21 h21 => ?_)
      refine q_icmp_ge C 53 dX4_pinnedOver_24 (by decide) (by omega) (by omega) (fun c24 => ?_) (fun c24 => ?_)
      · refine q_iload_n C 3 dX4_pinnedOver_53 rfl rfl ?_
        refine q_iretI C dX4_pinnedOver_54 (by omega) (by decide) ⟨?_, rfl⟩
        rw [cntF_0 (c := yHt (g 5 5) (g 7) v5) (i := i) (by omega)] at hm2
        subst e15
        subst e5
        obtain ⟨h10, -⟩ := h10
        subst h10
        subst h2
        unfold yPin
        omega
      · refine q_aload_n C 0 dX4_pinnedOver_27 rfl rfl ?_
        refine q_getr C (b := 5) 0 rfl (by decide) rfl in_X4 (by decide) fl_X4_24 rfl dX4_pinnedOver_28 ?_
        refine q_aload_n C 0 dX4_pinnedOver_31 rfl rfl ?_
        refine q_iload_n C 2 dX4_pinnedOver_32 rfl rfl ?_
        refine q_iload C dX4_pinnedOver_33 rfl ?_
        refine q_Vf0 C (KX4_boxOn_5 _ _ (by omega) _ (by omega)) mX4_boxOn ml_X4_56 dX4_pinnedOver_35 (by decide) (by decide) rfl rfl rfl (Nat.le_of_ble_eq_true rfl) rfl (by decide) rfl rfl (fun v35 l35 u35 h35 => ?_)
        refine q_Vf0 C (KX0_isPinned _ _ (by omega)) mX0_isPinned ml_X4_63 dX4_pinnedOver_38 (by decide) (by decide) rfl rfl rfl (Nat.le_of_ble_eq_true rfl) rfl (by decide) rfl rfl (fun v38 l38 u38 h38 => ?_)
        refine q_ifeq C 47 dX4_pinnedOver_41 (by decide) (by omega) (fun c41 => ?_) (fun c41 => ?_)
        · refine q_iinc C dX4_pinnedOver_47 rfl (by decide) (fun v47 e47 => ?_)
          refine q_goto C 17 dX4_pinnedOver_50 (by decide) ?_
          refine q_loc [(0, .ref (ω.1 5)), (1, .int (iI x)), (2, .int (iI v5)), (3, .int (iI q)), (4, .int (iI v47))] ⟨rfl, rfl, rfl, rfl, rfl, trivial⟩ ?_
          exact ih q v47 (by omega) (by omega) (by omega) (by omega) (by subst e47; subst h35; first | (have z := cntF_t (p := fun k => pinB g (yAt (g 5 5) (g 7) (g 8) v5 k)) (c := v21) (i := i) (by omega) (show _ = true by rcases h38 with ⟨z, _⟩ | ⟨_, z⟩; (· exact z); (· omega)); rw [h21] at z; omega) | (have z := cntF_f (p := fun k => pinB g (yAt (g 5 5) (g 7) (g 8) v5 k)) (c := v21) (i := i) (by omega) (show _ = false by rcases h38 with ⟨_, z⟩ | ⟨z, _⟩; (· omega); (· exact z)); rw [h21] at z; omega))
        · refine q_iinc C dX4_pinnedOver_44 rfl (by decide) (fun v44 e44 => ?_)
          refine q_iinc C dX4_pinnedOver_47 rfl (by decide) (fun v47 e47 => ?_)
          refine q_goto C 17 dX4_pinnedOver_50 (by decide) ?_
          refine q_loc [(0, .ref (ω.1 5)), (1, .int (iI x)), (2, .int (iI v5)), (3, .int (iI v44)), (4, .int (iI v47))] ⟨rfl, rfl, rfl, rfl, rfl, trivial⟩ ?_
          exact ih v44 v47 (by omega) (by omega) (by omega) (by omega) (by subst e47 e44; subst h35; first | (have z := cntF_t (p := fun k => pinB g (yAt (g 5 5) (g 7) (g 8) v5 k)) (c := v21) (i := i) (by omega) (show _ = true by rcases h38 with ⟨z, _⟩ | ⟨_, z⟩; (· exact z); (· omega)); rw [h21] at z; omega) | (have z := cntF_f (p := fun k => pinB g (yAt (g 5 5) (g 7) (g 8) v5 k)) (c := v21) (i := i) (by omega) (show _ = false by rcases h38 with ⟨_, z⟩ | ⟨z, _⟩; (· omega); (· exact z)); rw [h21] at z; omega))
  refine q_loc [(0, .ref (ω.1 5)), (1, .int (iI x)), (2, .int (iI v5)), (3, .int (iI v7)), (4, .int (iI v15))] ⟨rfl, rfl, rfl, rfl, rfl, trivial⟩ ?_
  exact loop ((yHt (g 5 5) (g 7) v5 + 1 - v15).toNat + 1) v7 v15 (by omega) (by omega) (by subst e5; subst h2; omega) (by omega) (by rw [e7, Int.zero_add])
set_option maxRecDepth 20000 in
theorem KX4_reasonAgainst_5 (g : qHp) (x : Int) (hx : -2147483648 ≤ x ∧ x < 2147483648) (t : Int) (ht : -2147483648 ≤ t ∧ t < 2147483648)  : qC yX4_reasonAgainst (.code yX4_reasonAgainst cX4_reasonAgainst 4 (some .char)) 2 0 (fun ad => [.ref (ad 5), .int (iI x), .int (iI t)]) g (qPi (fun (r : Int) (g' : qHp) => (yWhyR g (g 5 5) (g 6) (g 7) (g 8) (g 9) x t r ∧ (0 ≤ r ∧ r < 128)) ∧ g' = g)) qNo := by
  refine q_meth (by decide +kernel) rfl (fun _ => (Nat.le_of_ble_eq_true rfl)) (fun X ω C => ?_)
  refine q_nm (fun hn => ?_)
  have r5_5 : 0 ≤ g 5 5 ∧ g 5 5 ≤ 4 := hn 5 5
  refine q_loc [(0, .ref (ω.1 5)), (1, .int (iI x)), (2, .int (iI t))] ⟨rfl, rfl, rfl, trivial⟩ ?_
  refine q_aload_n C 0 dX4_reasonAgainst_0 rfl rfl ?_
  refine q_iload_n C 1 dX4_reasonAgainst_1 rfl rfl ?_
  refine q_Vf0 C (KX4_stackWith_5 _ _ (by omega)) mX4_stackWith ml_X4_53 dX4_reasonAgainst_2 (by decide) (by decide) rfl rfl rfl (Nat.le_of_ble_eq_true rfl) rfl (by decide) rfl rfl (fun v2 l2 u2 h2 => ?_)
  refine q_istoreV_n C 3 dX4_reasonAgainst_5 rfl (by decide) (fun v5 e5 => ?_)
  refine q_iload_n C 3 dX4_reasonAgainst_6 rfl rfl ?_
  refine q_iconst C dX4_reasonAgainst_7 ?_
  refine q_icmp_eq C 20 dX4_reasonAgainst_8 (by decide) (by omega) (by omega) (fun c8 => ?_) (fun c8 => ?_)
  · refine q_bipush C dX4_reasonAgainst_20 (by decide +kernel) ?_
    subst e5
    subst h2
    exact q_iretC C dX4_reasonAgainst_22 (by omega) (by decide) ⟨⟨Or.inl ⟨by first | exact Or.inl (by omega) | exact Or.inr (by rw [← h13]; omega), rfl⟩, by omega⟩, rfl⟩
  · refine q_aload_n C 0 dX4_reasonAgainst_11 rfl rfl ?_
    refine q_iload_n C 3 dX4_reasonAgainst_12 rfl rfl ?_
    refine q_Vf0 C (KX4_topOf_5 _ _ (by omega)) mX4_topOf ml_X4_41 dX4_reasonAgainst_13 (by decide) (by decide) rfl rfl rfl (Nat.le_of_ble_eq_true rfl) rfl (by decide) rfl rfl (fun v13 l13 u13 h13 => ?_)
    refine q_iload_n C 1 dX4_reasonAgainst_16 rfl rfl ?_
    refine q_icmp_eq C 23 dX4_reasonAgainst_17 (by decide) (by omega) (by omega) (fun c17 => ?_) (fun c17 => ?_)
    · refine q_aload_n C 0 dX4_reasonAgainst_23 rfl rfl ?_
      refine q_getr C (b := 5) 0 rfl (by decide) rfl in_X4 (by decide) fl_X4_24 rfl dX4_reasonAgainst_24 ?_
      refine q_iload_n C 1 dX4_reasonAgainst_27 rfl rfl ?_
      refine q_Vf0 C (KX0_isPinned _ _ (by omega)) mX0_isPinned ml_X4_63 dX4_reasonAgainst_28 (by decide) (by decide) rfl rfl rfl (Nat.le_of_ble_eq_true rfl) rfl (by decide) rfl rfl (fun v28 l28 u28 h28 => ?_)
      refine q_ifeq C 37 dX4_reasonAgainst_31 (by decide) (by omega) (fun c31 => ?_) (fun c31 => ?_)
      · refine q_iload_n C 3 dX4_reasonAgainst_37 rfl rfl ?_
        refine q_iload_n C 2 dX4_reasonAgainst_38 rfl rfl ?_
        refine q_icmp_ne C 45 dX4_reasonAgainst_39 (by decide) (by omega) (by omega) (fun c39 => ?_) (fun c39 => ?_)
        · refine q_aload_n C 0 dX4_reasonAgainst_45 rfl rfl ?_
          refine q_iload_n C 2 dX4_reasonAgainst_46 rfl rfl ?_
          refine q_Vf0 C (KX4_isFull_5 _ _ (by omega)) mX4_isFull ml_X4_67 dX4_reasonAgainst_47 (by decide) (by decide) rfl rfl rfl (Nat.le_of_ble_eq_true rfl) rfl (by decide) rfl rfl (fun v47 l47 u47 h47 => ?_)
          refine q_ifeq C 56 dX4_reasonAgainst_50 (by decide) (by omega) (fun c50 => ?_) (fun c50 => ?_)
          · refine q_aload_n C 0 dX4_reasonAgainst_56 rfl rfl ?_
            refine q_iload_n C 2 dX4_reasonAgainst_57 rfl rfl ?_
            refine q_aload_n C 0 dX4_reasonAgainst_58 rfl rfl ?_
            refine q_getr C (b := 5) 0 rfl (by decide) rfl in_X4 (by decide) fl_X4_24 rfl dX4_reasonAgainst_59 ?_
            refine q_iload_n C 1 dX4_reasonAgainst_62 rfl rfl ?_
            refine q_Vf0 C (KX0_weightOf _ _ (by omega)) mX0_weightOf ml_X4_45 dX4_reasonAgainst_63 (by decide) (by decide) rfl rfl rfl (Nat.le_of_ble_eq_true rfl) rfl (by decide) rfl rfl (fun v63 l63 u63 h63 => ?_)
            refine q_Vf0 C (KX4_bears_5 _ _ (by omega) _ (by omega)) mX4_bears ml_X4_70 dX4_reasonAgainst_66 (by decide) (by decide) rfl rfl rfl (Nat.le_of_ble_eq_true rfl) rfl (by decide) rfl rfl (fun v66 l66 u66 h66 => ?_)
            refine q_ifeq C 77 dX4_reasonAgainst_69 (by decide) (by omega) (fun c69 => ?_) (fun c69 => ?_)
            · refine q_bipush C dX4_reasonAgainst_77 (by decide +kernel) ?_
              subst e5
              subst h2
              subst h63
              exact q_iretC C dX4_reasonAgainst_79 (by omega) (by decide) ⟨⟨Or.inr ⟨(by omega : ySt _ x ≠ -1), (by rw [← h13]; omega), Or.inr ⟨by rcases h28 with ⟨_, z⟩ | ⟨z, _⟩; (· omega); (· exact z), Or.inr ⟨by omega, Or.inr ⟨by omega, by rcases h66 with ⟨z, z2⟩ | ⟨z, z2⟩; (· first | exact Or.inl ⟨z, rfl⟩ | (exfalso; omega)); (· first | exact Or.inr ⟨z, rfl⟩ | (exfalso; omega))⟩⟩⟩⟩, by omega⟩, rfl⟩
            · refine q_bipush C dX4_reasonAgainst_72 (by decide +kernel) ?_
              refine q_goto C 79 dX4_reasonAgainst_74 (by decide) ?_
              subst e5
              subst h2
              subst h63
              exact q_iretC C dX4_reasonAgainst_79 (by omega) (by decide) ⟨⟨Or.inr ⟨(by omega : ySt _ x ≠ -1), (by rw [← h13]; omega), Or.inr ⟨by rcases h28 with ⟨_, z⟩ | ⟨z, _⟩; (· omega); (· exact z), Or.inr ⟨by omega, Or.inr ⟨by omega, by rcases h66 with ⟨z, z2⟩ | ⟨z, z2⟩; (· first | exact Or.inl ⟨z, rfl⟩ | (exfalso; omega)); (· first | exact Or.inr ⟨z, rfl⟩ | (exfalso; omega))⟩⟩⟩⟩, by omega⟩, rfl⟩
          · refine q_bipush C dX4_reasonAgainst_53 (by decide +kernel) ?_
            subst e5
            subst h2
            exact q_iretC C dX4_reasonAgainst_55 (by omega) (by decide) ⟨⟨Or.inr ⟨(by omega : ySt _ x ≠ -1), (by rw [← h13]; omega), Or.inr ⟨by rcases h28 with ⟨_, z⟩ | ⟨z, _⟩; (· omega); (· exact z), Or.inr ⟨by omega, Or.inl ⟨by omega, rfl⟩⟩⟩⟩, by omega⟩, rfl⟩
        · refine q_bipush C dX4_reasonAgainst_42 (by decide +kernel) ?_
          subst e5
          subst h2
          exact q_iretC C dX4_reasonAgainst_44 (by omega) (by decide) ⟨⟨Or.inr ⟨(by omega : ySt _ x ≠ -1), (by rw [← h13]; omega), Or.inr ⟨by rcases h28 with ⟨_, z⟩ | ⟨z, _⟩; (· omega); (· exact z), Or.inl ⟨by omega, rfl⟩⟩⟩, by omega⟩, rfl⟩
      · refine q_bipush C dX4_reasonAgainst_34 (by decide +kernel) ?_
        subst e5
        subst h2
        exact q_iretC C dX4_reasonAgainst_36 (by omega) (by decide) ⟨⟨Or.inr ⟨(by omega : ySt _ x ≠ -1), (by rw [← h13]; omega), Or.inl ⟨by rcases h28 with ⟨z, _⟩ | ⟨_, z⟩; (· exact z); (· omega), rfl⟩⟩, by omega⟩, rfl⟩
    · refine q_bipush C dX4_reasonAgainst_20 (by decide +kernel) ?_
      subst e5
      subst h2
      exact q_iretC C dX4_reasonAgainst_22 (by omega) (by decide) ⟨⟨Or.inl ⟨by first | exact Or.inl (by omega) | exact Or.inr (by rw [← h13]; omega), rfl⟩, by omega⟩, rfl⟩
set_option maxRecDepth 20000 in
theorem KX4_put_5 (g : qHp) (x : Int) (hx : -2147483648 ≤ x ∧ x < 2147483648) (s : Int) (hs : -2147483648 ≤ s ∧ s < 2147483648) (hx2 : 0 ≤ x ∧ x ≤ 19) (hs2 : 0 ≤ s ∧ s < (g 5 5) ∧ (g 7) s < (g 6) s) : qC yX4_put (.code yX4_put cX4_put 3 none) 1 0 (fun ad => [.ref (ad 5), .int (iI x), .int (iI s)]) g (qPv (fun g' : qHp => g' = (qUp (qUp (qUp (qUp g 8 (s * 4 + (g 7) s) x) 7 s ((g 7) s + 1)) 9 x s) 5 6 (w32 (g 5 6 + 1))))) qNo := by
  refine q_meth (by decide +kernel) rfl (fun _ => (Nat.le_of_ble_eq_true rfl)) (fun X ω C => ?_)
  refine q_nm (fun hn => ?_)
  have r5_5 : 0 ≤ g 5 5 ∧ g 5 5 ≤ 4 := hn 5 5
  have hr4 : 0 ≤ (g 7) s ∧ (g 6) s ≤ 4 := ⟨(hn 7 s).1, (hn 6 s).2⟩
  refine q_loc [(0, .ref (ω.1 5)), (1, .int (iI x)), (2, .int (iI s))] ⟨rfl, rfl, rfl, trivial⟩ ?_
  refine q_iload_n C 1 dX4_put_0 rfl rfl ?_
  refine q_iflt C 18 dX4_put_1 (by decide) (by omega) (fun c1 => ?_) (fun c1 => ?_)
  · exfalso; omega
  · refine q_iload_n C 1 dX4_put_4 rfl rfl ?_
    refine q_bipush C dX4_put_5 (by decide +kernel) ?_
    refine q_icmp_ge C 18 dX4_put_7 (by decide) (by omega) (by omega) (fun c7 => ?_) (fun c7 => ?_)
    · exfalso; omega
    · refine q_aload_n C 0 dX4_put_10 rfl rfl ?_
      refine q_iload_n C 2 dX4_put_11 rfl rfl ?_
      refine q_Vf0 C (KX4_isFull_5 _ _ (by omega)) mX4_isFull ml_X4_67 dX4_put_12 (by decide) (by decide) rfl rfl rfl (Nat.le_of_ble_eq_true rfl) rfl (by decide) rfl rfl (fun v12 l12 u12 h12 => ?_)
      refine q_ifeq C 19 dX4_put_15 (by decide) (by omega) (fun c15 => ?_) (fun c15 => ?_)
      · refine q_aload_n C 0 dX4_put_19 rfl rfl ?_
        refine q_getr C (b := 5) 3 rfl (by decide) rfl in_X4 (by decide) fl_X4_18 rfl dX4_put_20 ?_
        refine q_iload_n C 2 dX4_put_23 rfl rfl ?_
        refine q_iconst C dX4_put_24 ?_
        refine q_imul C dX4_put_25 ?_
        refine q_aload_n C 0 dX4_put_26 rfl rfl ?_
        refine q_getr C (b := 5) 2 rfl (by decide) rfl in_X4 (by decide) fl_X4_15 rfl dX4_put_27 ?_
        refine q_iload_n C 2 dX4_put_30 rfl rfl ?_
        refine q_iald C (b := 7) (n := 4) 0 4 rfl (by decide) (by decide) (by omega) (fun _ => rfl) dX4_put_31 (fun v31 e31 l31 u31 => ?_)
        refine q_iadd C dX4_put_32 ?_
        refine q_iload_n C 1 dX4_put_33 rfl rfl ?_
        refine q_iast C (b := 8) (n := 16) rfl (by decide) (by decide) (by omega)  (show 0 ≤ _ ∧ _ ≤ 19 from (by omega)) dX4_put_34 ?_
        refine q_aload_n C 0 dX4_put_35 rfl rfl ?_
        refine q_getr C (b := 5) 2 rfl (by decide) rfl in_X4 (by decide) fl_X4_15 rfl dX4_put_36 ?_
        refine q_iload_n C 2 dX4_put_39 rfl rfl ?_
        refine q_dup2 C dX4_put_40 rfl rfl ?_
        refine q_iald C (b := 7) (n := 4) 0 4 rfl (by decide) (by decide) (by omega) (fun _ => rfl) dX4_put_41 (fun v41 e41 l41 u41 => ?_)
        refine q_iconst C dX4_put_42 ?_
        refine q_iadd C dX4_put_43 ?_
        refine q_iast C (b := 7) (n := 4) rfl (by decide) (by decide) (by omega)  (show 0 ≤ _ ∧ _ ≤ 4 from (by have q41 : v41 = g 7 s := by {rw [e41, qUp_k (by decide)]}; omega)) dX4_put_44 ?_
        refine q_aload_n C 0 dX4_put_45 rfl rfl ?_
        refine q_getr C (b := 5) 4 rfl (by decide) rfl in_X4 (by decide) fl_X4_21 rfl dX4_put_46 ?_
        refine q_iload_n C 1 dX4_put_49 rfl rfl ?_
        refine q_iload_n C 2 dX4_put_50 rfl rfl ?_
        refine q_iast C (b := 9) (n := 20) rfl (by decide) (by decide) (by omega)  (show (-1) ≤ _ ∧ _ ≤ 3 from (by omega)) dX4_put_51 ?_
        refine q_aload_n C 0 dX4_put_52 rfl rfl ?_
        refine q_dup C dX4_put_53 rfl ?_
        refine q_geti C (b := 5) 6 6 (-2147483648) 2147483647 rfl (by decide) rfl in_X4 (by decide) fl_X4_38 rfl rfl rfl dX4_put_54 (fun v54 e54 l54 u54 => ?_)
        refine q_iconst C dX4_put_57 ?_
        refine q_iadd C dX4_put_58 ?_
        have q41 : v41 = g 7 s := by rw [e41, qUp_k (by decide)]
        have q54 : v54 = g 5 6 := by rw [e54, qUp_k (by decide), qUp_k (by decide), qUp_k (by decide)]
        refine q_puti C (b := 5) 6 6 (-2147483648) 2147483647 (w32 _) rfl (by decide) rfl in_X4 tyX4_ok nmX4 (by decide) fl_X4_38 rfl (by decide +kernel) rfl rfl rfl (w32_iI _) (by have := w32_rng (v54 + 1); omega) dX4_put_59 ?_
        exact q_retV C dX4_put_62 (by decide) (by rw [e31, q41, q54])
      · exfalso; omega
set_option maxRecDepth 20000 in
theorem KX4_take_5 (g : qHp) (s : Int) (hs : -2147483648 ≤ s ∧ s < 2147483648) (hs2 : 0 ≤ s ∧ s < (g 5 5) ∧ (g 7) s ≠ 0) : qC yX4_take (.code yX4_take cX4_take 3 none) 1 0 (fun ad => [.ref (ad 5), .int (iI s)]) g (qPv (fun g' : qHp => g' = (qUp (qUp (qUp g 7 s ((g 7) s - 1)) 9 ((g 8) (s * 4 + (g 7) s - 1)) (-1)) 5 6 (w32 (g 5 6 - 1))))) qNo := by
  refine q_meth (by decide +kernel) rfl (fun _ => (Nat.le_of_ble_eq_true rfl)) (fun X ω C => ?_)
  refine q_nm (fun hn => ?_)
  have r5_5 : 0 ≤ g 5 5 ∧ g 5 5 ≤ 4 := hn 5 5
  have hr4 : 0 ≤ (g 7) s ∧ (g 7) s ≤ 4 := ⟨(hn 7 s).1, (hn 7 s).2⟩
  have hr5 : 0 ≤ (g 8) (s * 4 + (g 7) s - 1) ∧ (g 8) (s * 4 + (g 7) s - 1) ≤ 19 := ⟨(hn 8 _).1, (hn 8 _).2⟩
  have ht5 : yTop (g 5 5) (g 7) (g 8) s = (g 8) (s * 4 + (g 7) s - 1) := by unfold yTop; rw [if_pos (by omega)]
  refine q_loc [(0, .ref (ω.1 5)), (1, .int (iI s))] ⟨rfl, rfl, trivial⟩ ?_
  refine q_aload_n C 0 dX4_take_0 rfl rfl ?_
  refine q_iload_n C 1 dX4_take_1 rfl rfl ?_
  refine q_Vf0 C (KX4_topOf_5 _ _ (by omega)) mX4_topOf ml_X4_41 dX4_take_2 (by decide) (by decide) rfl rfl rfl (Nat.le_of_ble_eq_true rfl) rfl (by decide) rfl rfl (fun v2 l2 u2 h2 => ?_)
  refine q_istoreV_n C 2 dX4_take_5 rfl (by decide) (fun v5 e5 => ?_)
  refine q_iload_n C 2 dX4_take_6 rfl rfl ?_
  refine q_iconst C dX4_take_7 ?_
  refine q_icmp_ne C 12 dX4_take_8 (by decide) (by omega) (by omega) (fun c8 => ?_) (fun c8 => ?_)
  · refine q_aload_n C 0 dX4_take_12 rfl rfl ?_
    refine q_getr C (b := 5) 2 rfl (by decide) rfl in_X4 (by decide) fl_X4_15 rfl dX4_take_13 ?_
    refine q_iload_n C 1 dX4_take_16 rfl rfl ?_
    refine q_dup2 C dX4_take_17 rfl rfl ?_
    refine q_iald C (b := 7) (n := 4) 0 4 rfl (by decide) (by decide) (by omega) (fun _ => rfl) dX4_take_18 (fun v18 e18 l18 u18 => ?_)
    refine q_iconst C dX4_take_19 ?_
    refine q_isub C dX4_take_20 ?_
    refine q_iast C (b := 7) (n := 4) rfl (by decide) (by decide) (by omega)  (show 0 ≤ _ ∧ _ ≤ 4 from (by omega)) dX4_take_21 ?_
    refine q_aload_n C 0 dX4_take_22 rfl rfl ?_
    refine q_getr C (b := 5) 4 rfl (by decide) rfl in_X4 (by decide) fl_X4_21 rfl dX4_take_23 ?_
    refine q_iload_n C 2 dX4_take_26 rfl rfl ?_
    refine q_iconst C dX4_take_27 ?_
    refine q_iast C (b := 9) (n := 20) rfl (by decide) (by decide) (by omega)  (show (-1) ≤ _ ∧ _ ≤ 3 from (by omega)) dX4_take_28 ?_
    refine q_aload_n C 0 dX4_take_29 rfl rfl ?_
    refine q_dup C dX4_take_30 rfl ?_
    refine q_geti C (b := 5) 6 6 (-2147483648) 2147483647 rfl (by decide) rfl in_X4 (by decide) fl_X4_38 rfl rfl rfl dX4_take_31 (fun v31 e31 l31 u31 => ?_)
    refine q_iconst C dX4_take_34 ?_
    refine q_isub C dX4_take_35 ?_
    have q31 : v31 = g 5 6 := by rw [e31, qUp_k (by decide), qUp_k (by decide)]
    refine q_puti C (b := 5) 6 6 (-2147483648) 2147483647 (w32 _) rfl (by decide) rfl in_X4 tyX4_ok nmX4 (by decide) fl_X4_38 rfl (by decide +kernel) rfl rfl rfl (w32_iI _) (by have := w32_rng (v31 - 1); omega) dX4_take_36 ?_
    subst e18
    subst e5
    subst h2
    exact q_retV C dX4_take_39 (by decide) (by rw [q31, ht5])
  · exfalso; omega
set_option maxRecDepth 20000 in
theorem KX4_shift_5 (g : qHp) (f : Int) (hf : -2147483648 ≤ f ∧ f < 2147483648) (t : Int) (ht : -2147483648 ≤ t ∧ t < 2147483648) (hs2 : 0 ≤ f ∧ f < (g 5 5) ∧ (g 7) f ≠ 0 ∧ f ≠ t) (ht2 : 0 ≤ t ∧ t < (g 5 5) ∧ (g 7) t < (g 6) t) : qC yX4_shift (.code yX4_shift cX4_shift 4 none) 2 0 (fun ad => [.ref (ad 5), .int (iI f), .int (iI t)]) g (qPv (fun g' : qHp => g' = (qUp (qUp (qUp (qUp (qUp (qUp (qUp g 7 f ((g 7) f - 1)) 9 ((g 8) (f * 4 + (g 7) f - 1)) (-1)) 5 6 (w32 (g 5 6 - 1))) 8 (t * 4 + (g 7) t) ((g 8) (f * 4 + (g 7) f - 1))) 7 t ((g 7) t + 1)) 9 ((g 8) (f * 4 + (g 7) f - 1)) t) 5 6 (w32 (w32 (g 5 6 - 1) + 1))))) qNo := by
  refine q_meth (by decide +kernel) rfl (fun _ => (Nat.le_of_ble_eq_true rfl)) (fun X ω C => ?_)
  refine q_nm (fun hn => ?_)
  have r5_5 : 0 ≤ g 5 5 ∧ g 5 5 ≤ 4 := hn 5 5
  have hr5 : 0 ≤ (g 8) (f * 4 + (g 7) f - 1) ∧ (g 8) (f * 4 + (g 7) f - 1) ≤ 19 := ⟨(hn 8 _).1, (hn 8 _).2⟩
  have ht5 : yTop (g 5 5) (g 7) (g 8) f = (g 8) (f * 4 + (g 7) f - 1) := by unfold yTop; rw [if_pos (by omega)]
  refine q_loc [(0, .ref (ω.1 5)), (1, .int (iI f)), (2, .int (iI t))] ⟨rfl, rfl, rfl, trivial⟩ ?_
  refine q_aload_n C 0 dX4_shift_0 rfl rfl ?_
  refine q_iload_n C 1 dX4_shift_1 rfl rfl ?_
  refine q_Vf0 C (KX4_topOf_5 _ _ (by omega)) mX4_topOf ml_X4_41 dX4_shift_2 (by decide) (by decide) rfl rfl rfl (Nat.le_of_ble_eq_true rfl) rfl (by decide) rfl rfl (fun v2 l2 u2 h2 => ?_)
  refine q_istoreV_n C 3 dX4_shift_5 rfl (by decide) (fun v5 e5 => ?_)
  refine q_iload_n C 3 dX4_shift_6 rfl rfl ?_
  refine q_iconst C dX4_shift_7 ?_
  refine q_icmp_eq C 24 dX4_shift_8 (by decide) (by omega) (by omega) (fun c8 => ?_) (fun c8 => ?_)
  · exfalso; omega
  · refine q_iload_n C 1 dX4_shift_11 rfl rfl ?_
    refine q_iload_n C 2 dX4_shift_12 rfl rfl ?_
    refine q_icmp_eq C 24 dX4_shift_13 (by decide) (by omega) (by omega) (fun c13 => ?_) (fun c13 => ?_)
    · exfalso; omega
    · refine q_aload_n C 0 dX4_shift_16 rfl rfl ?_
      refine q_iload_n C 2 dX4_shift_17 rfl rfl ?_
      refine q_Vf0 C (KX4_isFull_5 _ _ (by omega)) mX4_isFull ml_X4_67 dX4_shift_18 (by decide) (by decide) rfl rfl rfl (Nat.le_of_ble_eq_true rfl) rfl (by decide) rfl rfl (fun v18 l18 u18 h18 => ?_)
      refine q_ifeq C 25 dX4_shift_21 (by decide) (by omega) (fun c21 => ?_) (fun c21 => ?_)
      · refine q_aload_n C 0 dX4_shift_25 rfl rfl ?_
        refine q_iload_n C 1 dX4_shift_26 rfl rfl ?_
        refine q_Vv0 C (KX4_take_5 _ _ (by omega) (by omega)) mX4_take ml_X4_74 dX4_shift_27 (by decide) (by decide) rfl rfl rfl (Nat.le_of_ble_eq_true rfl) rfl (by decide) rfl rfl ?_
        refine q_aload_n C 0 dX4_shift_30 rfl rfl ?_
        refine q_iload_n C 3 dX4_shift_31 rfl rfl ?_
        refine q_iload_n C 2 dX4_shift_32 rfl rfl ?_
        have g5 : (qUp (qUp (qUp g 7 f ((g 7) f - 1)) 9 ((g 8) (f * 4 + (g 7) f - 1)) (-1)) 5 6 (w32 (g 5 6 - 1))) 5 5 = (g 5 5) := by rw [qUp_j (by decide), qUp_k (by decide), qUp_k (by decide)]
        have g6 : (qUp (qUp (qUp g 7 f ((g 7) f - 1)) 9 ((g 8) (f * 4 + (g 7) f - 1)) (-1)) 5 6 (w32 (g 5 6 - 1))) 6 t = (g 6) t := by rw [qUp_k (by decide), qUp_k (by decide), qUp_k (by decide)]
        have g7 : (qUp (qUp (qUp g 7 f ((g 7) f - 1)) 9 ((g 8) (f * 4 + (g 7) f - 1)) (-1)) 5 6 (w32 (g 5 6 - 1))) 7 t = (g 7) t := by rw [qUp_k (by decide), qUp_k (by decide), qUp_j (by omega)]
        have g8 : (qUp (qUp (qUp g 7 f ((g 7) f - 1)) 9 ((g 8) (f * 4 + (g 7) f - 1)) (-1)) 5 6 (w32 (g 5 6 - 1))) 5 6 = w32 (g 5 6 - 1) := by rw [qUp_s]
        refine q_Vv0 C (KX4_put_5 _ _ (by omega) _ (by omega) (by omega) (by rw [g5, g7, g6]; omega)) mX4_put ml_X4_78 dX4_shift_33 (by decide) (by decide) rfl rfl rfl (Nat.le_of_ble_eq_true rfl) rfl (by decide) rfl rfl ?_
        subst e5
        subst h2
        exact q_retV C dX4_shift_36 (by decide) (by rw [g7, g8, ht5])
      · exfalso; omega
set_option maxRecDepth 20000 in
theorem KX4_openStack_5 (g : qHp) (rc : Int) (hrc : -2147483648 ≤ rc ∧ rc < 2147483648) (hr2 : 1 ≤ rc ∧ rc ≤ 4) : qC yX4_openStack (.code yX4_openStack cX4_openStack 3 (some .int)) 0 0 (fun ad => [.ref (ad 5), .int (iI rc)]) g (qPi (fun (r : Int) (g' : qHp) => (((g 5 5) < 4 ∧ r = (g 5 5)) ∨ (4 ≤ (g 5 5) ∧ r = -1)) ∧ g' = (if (g 5 5) < 4 then qUp (qUp g 5 5 ((g 5 5) + 1)) 6 (g 5 5) rc else g))) qNo := by
  refine q_meth (by decide +kernel) rfl (fun _ => (Nat.le_of_ble_eq_true rfl)) (fun X ω C => ?_)
  refine q_nm (fun hn => ?_)
  have r5_5 : 0 ≤ g 5 5 ∧ g 5 5 ≤ 4 := hn 5 5
  refine q_loc [(0, .ref (ω.1 5)), (1, .int (iI rc))] ⟨rfl, rfl, trivial⟩ ?_
  refine q_aload_n C 0 dX4_openStack_0 rfl rfl ?_
  refine q_geti C (b := 5) 5 5 0 4 rfl (by decide) rfl in_X4 (by decide) fl_X4_34 rfl rfl rfl dX4_openStack_1 (fun v1 e1 l1 u1 => ?_)
  refine q_iconst C dX4_openStack_4 ?_
  refine q_icmp_lt C 10 dX4_openStack_5 (by decide) (by omega) (by omega) (fun c5 => ?_) (fun c5 => ?_)
  · refine q_aload_n C 0 dX4_openStack_10 rfl rfl ?_
    refine q_geti C (b := 5) 5 5 0 4 rfl (by decide) rfl in_X4 (by decide) fl_X4_34 rfl rfl rfl dX4_openStack_11 (fun v11 e11 l11 u11 => ?_)
    refine q_istoreV_n C 2 dX4_openStack_14 rfl (by decide) (fun v14 e14 => ?_)
    refine q_aload_n C 0 dX4_openStack_15 rfl rfl ?_
    refine q_dup C dX4_openStack_16 rfl ?_
    refine q_geti C (b := 5) 5 5 0 4 rfl (by decide) rfl in_X4 (by decide) fl_X4_34 rfl rfl rfl dX4_openStack_17 (fun v17 e17 l17 u17 => ?_)
    refine q_iconst C dX4_openStack_20 ?_
    refine q_iadd C dX4_openStack_21 ?_
    refine q_puti C (b := 5) 5 5 0 4 _ rfl (by decide) rfl in_X4 tyX4_ok nmX4 (by decide) fl_X4_34 rfl (by decide +kernel) rfl rfl rfl rfl (by omega) dX4_openStack_22 ?_
    refine q_aload_n C 0 dX4_openStack_25 rfl rfl ?_
    refine q_getr C (b := 5) 1 rfl (by decide) rfl in_X4 (by decide) fl_X4_9 rfl dX4_openStack_26 ?_
    refine q_iload_n C 2 dX4_openStack_29 rfl rfl ?_
    refine q_iload_n C 1 dX4_openStack_30 rfl rfl ?_
    refine q_iast C (b := 6) (n := 4) rfl (by decide) (by decide) (by omega)  (show 0 ≤ _ ∧ _ ≤ 4 from (by omega)) dX4_openStack_31 ?_
    refine q_iload_n C 2 dX4_openStack_32 rfl rfl ?_
    subst e17 e14 e11 e1
    exact q_iretI C dX4_openStack_33 (by omega) (by decide) (⟨by omega, by first | rw [if_pos (by omega)] | rw [if_neg (by omega)]⟩)
  · refine q_iconst C dX4_openStack_8 ?_
    subst e1
    exact q_iretI C dX4_openStack_9 (by omega) (by decide) (⟨by omega, by first | rw [if_pos (by omega)] | rw [if_neg (by omega)]⟩)
set_option maxRecDepth 20000 in
theorem KX4_stackCount_10 (g : qHp)  : qC yX4_stackCount (.code yX4_stackCount cX4_stackCount 1 (some .int)) 0 0 (fun ad => [.ref (ad 10)]) g (qPi (fun (r : Int) (g' : qHp) => (r = (g 10 5)) ∧ g' = g)) qNo := by
  refine q_meth (by decide +kernel) rfl (fun _ => (Nat.le_of_ble_eq_true rfl)) (fun X ω C => ?_)
  refine q_nm (fun hn => ?_)
  have r10_5 : 0 ≤ g 10 5 ∧ g 10 5 ≤ 4 := hn 10 5
  refine q_loc [(0, .ref (ω.1 10))] ⟨rfl, trivial⟩ ?_
  refine q_aload_n C 0 dX4_stackCount_0 rfl rfl ?_
  refine q_geti C (b := 10) 5 5 0 4 rfl (by decide) rfl in_X4 (by decide) fl_X4_34 rfl rfl rfl dX4_stackCount_1 (fun v1 e1 l1 u1 => ?_)
  subst e1
  exact q_iretI C dX4_stackCount_4 (by omega) (by decide) (⟨by omega, rfl⟩)
set_option maxRecDepth 20000 in
theorem KX4_boxCount_10 (g : qHp)  : qC yX4_boxCount (.code yX4_boxCount cX4_boxCount 1 (some .int)) 0 0 (fun ad => [.ref (ad 10)]) g (qPi (fun (r : Int) (g' : qHp) => (r = g 10 6) ∧ g' = g)) qNo := by
  refine q_meth (by decide +kernel) rfl (fun _ => (Nat.le_of_ble_eq_true rfl)) (fun X ω C => ?_)
  refine q_nm (fun hn => ?_)
  have r10_5 : 0 ≤ g 10 5 ∧ g 10 5 ≤ 4 := hn 10 5
  refine q_loc [(0, .ref (ω.1 10))] ⟨rfl, trivial⟩ ?_
  refine q_aload_n C 0 dX4_boxCount_0 rfl rfl ?_
  refine q_geti C (b := 10) 6 6 (-2147483648) 2147483647 rfl (by decide) rfl in_X4 (by decide) fl_X4_38 rfl rfl rfl dX4_boxCount_1 (fun v1 e1 l1 u1 => ?_)
  subst e1
  exact q_iretI C dX4_boxCount_4 (by omega) (by decide) (⟨by omega, rfl⟩)
set_option maxRecDepth 20000 in
theorem KX4_hasStack_10 (g : qHp) (s : Int) (hs : -2147483648 ≤ s ∧ s < 2147483648)  : qC yX4_hasStack (.code yX4_hasStack cX4_hasStack 2 (some .boolean)) 0 0 (fun ad => [.ref (ad 10), .int (iI s)]) g (qPi (fun (r : Int) (g' : qHp) => (((0 ≤ s ∧ s < (g 10 5)) ∧ r = 1) ∨ (¬ (0 ≤ s ∧ s < (g 10 5)) ∧ r = 0)) ∧ g' = g)) qNo := by
  refine q_meth (by decide +kernel) rfl (fun _ => (Nat.le_of_ble_eq_true rfl)) (fun X ω C => ?_)
  refine q_nm (fun hn => ?_)
  have r10_5 : 0 ≤ g 10 5 ∧ g 10 5 ≤ 4 := hn 10 5
  refine q_loc [(0, .ref (ω.1 10)), (1, .int (iI s))] ⟨rfl, rfl, trivial⟩ ?_
  refine q_iload_n C 1 dX4_hasStack_0 rfl rfl ?_
  refine q_iflt C 16 dX4_hasStack_1 (by decide) (by omega) (fun c1 => ?_) (fun c1 => ?_)
  · refine q_iconst C dX4_hasStack_16 ?_
    exact q_iretZ C dX4_hasStack_17 (by omega) (by decide) (⟨by omega, rfl⟩)
  · refine q_iload_n C 1 dX4_hasStack_4 rfl rfl ?_
    refine q_aload_n C 0 dX4_hasStack_5 rfl rfl ?_
    refine q_geti C (b := 10) 5 5 0 4 rfl (by decide) rfl in_X4 (by decide) fl_X4_34 rfl rfl rfl dX4_hasStack_6 (fun v6 e6 l6 u6 => ?_)
    refine q_icmp_ge C 16 dX4_hasStack_9 (by decide) (by omega) (by omega) (fun c9 => ?_) (fun c9 => ?_)
    · refine q_iconst C dX4_hasStack_16 ?_
      subst e6
      exact q_iretZ C dX4_hasStack_17 (by omega) (by decide) (⟨by omega, rfl⟩)
    · refine q_iconst C dX4_hasStack_12 ?_
      refine q_goto C 17 dX4_hasStack_13 (by decide) ?_
      subst e6
      exact q_iretZ C dX4_hasStack_17 (by omega) (by decide) (⟨by omega, rfl⟩)
set_option maxRecDepth 20000 in
theorem KX4_heightOf_10 (g : qHp) (s : Int) (hs : -2147483648 ≤ s ∧ s < 2147483648)  : qC yX4_heightOf (.code yX4_heightOf cX4_heightOf 2 (some .int)) 0 0 (fun ad => [.ref (ad 10), .int (iI s)]) g (qPi (fun (r : Int) (g' : qHp) => (r = yHt (g 10 5) (g 12) s) ∧ g' = g)) qNo := by
  refine q_meth (by decide +kernel) rfl (fun _ => (Nat.le_of_ble_eq_true rfl)) (fun X ω C => ?_)
  refine q_nm (fun hn => ?_)
  have r10_5 : 0 ≤ g 10 5 ∧ g 10 5 ≤ 4 := hn 10 5
  refine q_loc [(0, .ref (ω.1 10)), (1, .int (iI s))] ⟨rfl, rfl, trivial⟩ ?_
  refine q_iload_n C 1 dX4_heightOf_0 rfl rfl ?_
  refine q_iflt C 21 dX4_heightOf_1 (by decide) (by omega) (fun c1 => ?_) (fun c1 => ?_)
  · refine q_iconst C dX4_heightOf_21 ?_
    exact q_iretI C dX4_heightOf_22 (by omega) (by decide) (⟨by unfold yHt; first | rw [if_pos (by omega)] | rw [if_neg (by omega)], rfl⟩)
  · refine q_iload_n C 1 dX4_heightOf_4 rfl rfl ?_
    refine q_aload_n C 0 dX4_heightOf_5 rfl rfl ?_
    refine q_geti C (b := 10) 5 5 0 4 rfl (by decide) rfl in_X4 (by decide) fl_X4_34 rfl rfl rfl dX4_heightOf_6 (fun v6 e6 l6 u6 => ?_)
    refine q_icmp_ge C 21 dX4_heightOf_9 (by decide) (by omega) (by omega) (fun c9 => ?_) (fun c9 => ?_)
    · refine q_iconst C dX4_heightOf_21 ?_
      subst e6
      exact q_iretI C dX4_heightOf_22 (by omega) (by decide) (⟨by unfold yHt; first | rw [if_pos (by omega)] | rw [if_neg (by omega)], rfl⟩)
    · refine q_aload_n C 0 dX4_heightOf_12 rfl rfl ?_
      refine q_getr C (b := 10) 2 rfl (by decide) rfl in_X4 (by decide) fl_X4_15 rfl dX4_heightOf_13 ?_
      refine q_iload_n C 1 dX4_heightOf_16 rfl rfl ?_
      refine q_iald C (b := 12) (n := 4) 0 4 rfl (by decide) (by decide) (by omega) (fun _ => rfl) dX4_heightOf_17 (fun v17 e17 l17 u17 => ?_)
      refine q_goto C 22 dX4_heightOf_18 (by decide) ?_
      subst e17 e6
      exact q_iretI C dX4_heightOf_22 (by omega) (by decide) (⟨by unfold yHt; first | rw [if_pos (by omega)] | rw [if_neg (by omega)], rfl⟩)
set_option maxRecDepth 20000 in
theorem KX4_isFull_10 (g : qHp) (s : Int) (hs : -2147483648 ≤ s ∧ s < 2147483648)  : qC yX4_isFull (.code yX4_isFull cX4_isFull 2 (some .boolean)) 0 0 (fun ad => [.ref (ad 10), .int (iI s)]) g (qPi (fun (r : Int) (g' : qHp) => (((s < 0 ∨ (g 10 5) ≤ s ∨ (g 11) s ≤ (g 12) s) ∧ r = 1) ∨ (¬ (s < 0 ∨ (g 10 5) ≤ s ∨ (g 11) s ≤ (g 12) s) ∧ r = 0)) ∧ g' = g)) qNo := by
  refine q_meth (by decide +kernel) rfl (fun _ => (Nat.le_of_ble_eq_true rfl)) (fun X ω C => ?_)
  refine q_nm (fun hn => ?_)
  have r10_5 : 0 ≤ g 10 5 ∧ g 10 5 ≤ 4 := hn 10 5
  refine q_loc [(0, .ref (ω.1 10)), (1, .int (iI s))] ⟨rfl, rfl, trivial⟩ ?_
  refine q_iload_n C 1 dX4_isFull_0 rfl rfl ?_
  refine q_iflt C 27 dX4_isFull_1 (by decide) (by omega) (fun c1 => ?_) (fun c1 => ?_)
  · refine q_iconst C dX4_isFull_27 ?_
    refine q_goto C 32 dX4_isFull_28 (by decide) ?_
    exact q_iretZ C dX4_isFull_32 (by omega) (by decide) (⟨by omega, rfl⟩)
  · refine q_iload_n C 1 dX4_isFull_4 rfl rfl ?_
    refine q_aload_n C 0 dX4_isFull_5 rfl rfl ?_
    refine q_geti C (b := 10) 5 5 0 4 rfl (by decide) rfl in_X4 (by decide) fl_X4_34 rfl rfl rfl dX4_isFull_6 (fun v6 e6 l6 u6 => ?_)
    refine q_icmp_ge C 27 dX4_isFull_9 (by decide) (by omega) (by omega) (fun c9 => ?_) (fun c9 => ?_)
    · refine q_iconst C dX4_isFull_27 ?_
      refine q_goto C 32 dX4_isFull_28 (by decide) ?_
      subst e6
      exact q_iretZ C dX4_isFull_32 (by omega) (by decide) (⟨by omega, rfl⟩)
    · refine q_aload_n C 0 dX4_isFull_12 rfl rfl ?_
      refine q_getr C (b := 10) 2 rfl (by decide) rfl in_X4 (by decide) fl_X4_15 rfl dX4_isFull_13 ?_
      refine q_iload_n C 1 dX4_isFull_16 rfl rfl ?_
      refine q_iald C (b := 12) (n := 4) 0 4 rfl (by decide) (by decide) (by omega) (fun _ => rfl) dX4_isFull_17 (fun v17 e17 l17 u17 => ?_)
      refine q_aload_n C 0 dX4_isFull_18 rfl rfl ?_
      refine q_getr C (b := 10) 1 rfl (by decide) rfl in_X4 (by decide) fl_X4_9 rfl dX4_isFull_19 ?_
      refine q_iload_n C 1 dX4_isFull_22 rfl rfl ?_
      refine q_iald C (b := 11) (n := 4) 0 4 rfl (by decide) (by decide) (by omega) (fun _ => rfl) dX4_isFull_23 (fun v23 e23 l23 u23 => ?_)
      refine q_icmp_lt C 31 dX4_isFull_24 (by decide) (by omega) (by omega) (fun c24 => ?_) (fun c24 => ?_)
      · refine q_iconst C dX4_isFull_31 ?_
        subst e23 e17 e6
        exact q_iretZ C dX4_isFull_32 (by omega) (by decide) (⟨by omega, rfl⟩)
      · refine q_iconst C dX4_isFull_27 ?_
        refine q_goto C 32 dX4_isFull_28 (by decide) ?_
        subst e23 e17 e6
        exact q_iretZ C dX4_isFull_32 (by omega) (by decide) (⟨by omega, rfl⟩)
set_option maxRecDepth 20000 in
theorem KX4_topOf_10 (g : qHp) (s : Int) (hs : -2147483648 ≤ s ∧ s < 2147483648)  : qC yX4_topOf (.code yX4_topOf cX4_topOf 2 (some .int)) 0 0 (fun ad => [.ref (ad 10), .int (iI s)]) g (qPi (fun (r : Int) (g' : qHp) => (r = yTop (g 10 5) (g 12) (g 13) s) ∧ g' = g)) qNo := by
  refine q_meth (by decide +kernel) rfl (fun _ => (Nat.le_of_ble_eq_true rfl)) (fun X ω C => ?_)
  refine q_nm (fun hn => ?_)
  have r10_5 : 0 ≤ g 10 5 ∧ g 10 5 ≤ 4 := hn 10 5
  refine q_loc [(0, .ref (ω.1 10)), (1, .int (iI s))] ⟨rfl, rfl, trivial⟩ ?_
  refine q_iload_n C 1 dX4_topOf_0 rfl rfl ?_
  refine q_iflt C 21 dX4_topOf_1 (by decide) (by omega) (fun c1 => ?_) (fun c1 => ?_)
  · refine q_iconst C dX4_topOf_21 ?_
    exact q_iretI C dX4_topOf_22 (by omega) (by decide) (⟨by unfold yTop; first | rw [if_pos (by omega)] | rw [if_neg (by omega)], rfl⟩)
  · refine q_iload_n C 1 dX4_topOf_4 rfl rfl ?_
    refine q_aload_n C 0 dX4_topOf_5 rfl rfl ?_
    refine q_geti C (b := 10) 5 5 0 4 rfl (by decide) rfl in_X4 (by decide) fl_X4_34 rfl rfl rfl dX4_topOf_6 (fun v6 e6 l6 u6 => ?_)
    refine q_icmp_ge C 21 dX4_topOf_9 (by decide) (by omega) (by omega) (fun c9 => ?_) (fun c9 => ?_)
    · refine q_iconst C dX4_topOf_21 ?_
      subst e6
      exact q_iretI C dX4_topOf_22 (by omega) (by decide) (⟨by unfold yTop; first | rw [if_pos (by omega)] | rw [if_neg (by omega)], rfl⟩)
    · refine q_aload_n C 0 dX4_topOf_12 rfl rfl ?_
      refine q_getr C (b := 10) 2 rfl (by decide) rfl in_X4 (by decide) fl_X4_15 rfl dX4_topOf_13 ?_
      refine q_iload_n C 1 dX4_topOf_16 rfl rfl ?_
      refine q_iald C (b := 12) (n := 4) 0 4 rfl (by decide) (by decide) (by omega) (fun _ => rfl) dX4_topOf_17 (fun v17 e17 l17 u17 => ?_)
      refine q_ifne C 23 dX4_topOf_18 (by decide) (by omega) (fun c18 => ?_) (fun c18 => ?_)
      · refine q_aload_n C 0 dX4_topOf_23 rfl rfl ?_
        refine q_getr C (b := 10) 3 rfl (by decide) rfl in_X4 (by decide) fl_X4_18 rfl dX4_topOf_24 ?_
        refine q_iload_n C 1 dX4_topOf_27 rfl rfl ?_
        refine q_iconst C dX4_topOf_28 ?_
        refine q_imul C dX4_topOf_29 ?_
        refine q_aload_n C 0 dX4_topOf_30 rfl rfl ?_
        refine q_getr C (b := 10) 2 rfl (by decide) rfl in_X4 (by decide) fl_X4_15 rfl dX4_topOf_31 ?_
        refine q_iload_n C 1 dX4_topOf_34 rfl rfl ?_
        refine q_iald C (b := 12) (n := 4) 0 4 rfl (by decide) (by decide) (by omega) (fun _ => rfl) dX4_topOf_35 (fun v35 e35 l35 u35 => ?_)
        refine q_iadd C dX4_topOf_36 ?_
        refine q_iconst C dX4_topOf_37 ?_
        refine q_isub C dX4_topOf_38 ?_
        refine q_iald C (b := 13) (n := 16) 0 19 rfl (by decide) (by decide) (by omega) (fun _ => rfl) dX4_topOf_39 (fun v39 e39 l39 u39 => ?_)
        subst e39 e35 e17 e6
        exact q_iretI C dX4_topOf_40 (by omega) (by decide) (⟨by unfold yTop; first | rw [if_pos (by omega)] | rw [if_neg (by omega)], rfl⟩)
      · refine q_iconst C dX4_topOf_21 ?_
        subst e17 e6
        exact q_iretI C dX4_topOf_22 (by omega) (by decide) (⟨by unfold yTop; first | rw [if_pos (by omega)] | rw [if_neg (by omega)], rfl⟩)
set_option maxRecDepth 20000 in
theorem KX4_stackWith_10 (g : qHp) (x : Int) (hx : -2147483648 ≤ x ∧ x < 2147483648)  : qC yX4_stackWith (.code yX4_stackWith cX4_stackWith 2 (some .int)) 0 0 (fun ad => [.ref (ad 10), .int (iI x)]) g (qPi (fun (r : Int) (g' : qHp) => (r = ySt (g 14) x) ∧ g' = g)) qNo := by
  refine q_meth (by decide +kernel) rfl (fun _ => (Nat.le_of_ble_eq_true rfl)) (fun X ω C => ?_)
  refine q_nm (fun hn => ?_)
  have r10_5 : 0 ≤ g 10 5 ∧ g 10 5 ≤ 4 := hn 10 5
  refine q_loc [(0, .ref (ω.1 10)), (1, .int (iI x))] ⟨rfl, rfl, trivial⟩ ?_
  refine q_iload_n C 1 dX4_stackWith_0 rfl rfl ?_
  refine q_iflt C 19 dX4_stackWith_1 (by decide) (by omega) (fun c1 => ?_) (fun c1 => ?_)
  · refine q_iconst C dX4_stackWith_19 ?_
    exact q_iretI C dX4_stackWith_20 (by omega) (by decide) (⟨by unfold ySt; first | rw [if_pos (by omega)] | rw [if_neg (by omega)], rfl⟩)
  · refine q_iload_n C 1 dX4_stackWith_4 rfl rfl ?_
    refine q_bipush C dX4_stackWith_5 (by decide +kernel) ?_
    refine q_icmp_ge C 19 dX4_stackWith_7 (by decide) (by omega) (by omega) (fun c7 => ?_) (fun c7 => ?_)
    · refine q_iconst C dX4_stackWith_19 ?_
      exact q_iretI C dX4_stackWith_20 (by omega) (by decide) (⟨by unfold ySt; first | rw [if_pos (by omega)] | rw [if_neg (by omega)], rfl⟩)
    · refine q_aload_n C 0 dX4_stackWith_10 rfl rfl ?_
      refine q_getr C (b := 10) 4 rfl (by decide) rfl in_X4 (by decide) fl_X4_21 rfl dX4_stackWith_11 ?_
      refine q_iload_n C 1 dX4_stackWith_14 rfl rfl ?_
      refine q_iald C (b := 14) (n := 20) (-1) 3 rfl (by decide) (by decide) (by omega) (fun _ => rfl) dX4_stackWith_15 (fun v15 e15 l15 u15 => ?_)
      refine q_goto C 20 dX4_stackWith_16 (by decide) ?_
      subst e15
      exact q_iretI C dX4_stackWith_20 (by omega) (by decide) (⟨by unfold ySt; first | rw [if_pos (by omega)] | rw [if_neg (by omega)], rfl⟩)
set_option maxRecDepth 20000 in
theorem KX4_boxOn_10 (g : qHp) (s : Int) (hs : -2147483648 ≤ s ∧ s < 2147483648) (k : Int) (hk : -2147483648 ≤ k ∧ k < 2147483648)  : qC yX4_boxOn (.code yX4_boxOn cX4_boxOn 3 (some .int)) 1 0 (fun ad => [.ref (ad 10), .int (iI s), .int (iI k)]) g (qPi (fun (r : Int) (g' : qHp) => (r = yAt (g 10 5) (g 12) (g 13) s k) ∧ g' = g)) qNo := by
  refine q_meth (by decide +kernel) rfl (fun _ => (Nat.le_of_ble_eq_true rfl)) (fun X ω C => ?_)
  refine q_nm (fun hn => ?_)
  have r10_5 : 0 ≤ g 10 5 ∧ g 10 5 ≤ 4 := hn 10 5
  refine q_loc [(0, .ref (ω.1 10)), (1, .int (iI s)), (2, .int (iI k))] ⟨rfl, rfl, rfl, trivial⟩ ?_
  refine q_iload_n C 2 dX4_boxOn_0 rfl rfl ?_
  refine q_iflt C 13 dX4_boxOn_1 (by decide) (by omega) (fun c1 => ?_) (fun c1 => ?_)
  · refine q_iconst C dX4_boxOn_13 ?_
    
    exact q_iretI C dX4_boxOn_14 (by omega) (by decide) ⟨by unfold yAt; rw [if_neg (by omega)], rfl⟩
  · refine q_iload_n C 2 dX4_boxOn_4 rfl rfl ?_
    refine q_aload_n C 0 dX4_boxOn_5 rfl rfl ?_
    refine q_iload_n C 1 dX4_boxOn_6 rfl rfl ?_
    refine q_Vf0 C (KX4_heightOf_10 _ _ (by omega)) mX4_heightOf ml_X4_50 dX4_boxOn_7 (by decide) (by decide) rfl rfl rfl (Nat.le_of_ble_eq_true rfl) rfl (by decide) rfl rfl (fun v7 l7 u7 h7 => ?_)
    refine q_icmp_lt C 15 dX4_boxOn_10 (by decide) (by omega) (by omega) (fun c10 => ?_) (fun c10 => ?_)
    · refine q_aload_n C 0 dX4_boxOn_15 rfl rfl ?_
      have hs5 : 0 ≤ s ∧ s < (g 10 5) ∧ yHt (g 10 5) (g 12) s = (g 12) s := by
        unfold yHt at h7 ⊢
        by_cases q : 0 ≤ s ∧ s < (g 10 5)
        · rw [if_pos q]; exact ⟨q.1, q.2, rfl⟩
        · rw [if_neg q] at h7; omega
      have hr5 : (g 12) s ≤ 4 := (hn 12 s).2
      refine q_getr C (b := 10) 3 rfl (by decide) rfl in_X4 (by decide) fl_X4_18 rfl dX4_boxOn_16 ?_
      refine q_iload_n C 1 dX4_boxOn_19 rfl rfl ?_
      refine q_iconst C dX4_boxOn_20 ?_
      refine q_imul C dX4_boxOn_21 ?_
      refine q_iload_n C 2 dX4_boxOn_22 rfl rfl ?_
      refine q_iadd C dX4_boxOn_23 ?_
      refine q_iald C (b := 13) (n := 16) 0 19 rfl (by decide) (by decide) (by omega) (fun _ => rfl) dX4_boxOn_24 (fun v24 e24 l24 u24 => ?_)
      subst e24
      exact q_iretI C dX4_boxOn_25 (by omega) (by decide) ⟨by unfold yAt; rw [if_pos (by omega)], rfl⟩
    · refine q_iconst C dX4_boxOn_13 ?_
      
      exact q_iretI C dX4_boxOn_14 (by omega) (by decide) ⟨by unfold yAt; rw [if_neg (by omega)], rfl⟩
set_option maxRecDepth 20000 in
theorem KX4_bears_10 (g : qHp) (t : Int) (ht : -2147483648 ≤ t ∧ t < 2147483648) (w : Int) (hw : -2147483648 ≤ w ∧ w < 2147483648)  : qC yX4_bears (.code yX4_bears cX4_bears 4 (some .boolean)) 1 0 (fun ad => [.ref (ad 10), .int (iI t), .int (iI w)]) g (qPi (fun (r : Int) (g' : qHp) => ((yBears g (g 10 5) (g 12) (g 13) t w ∧ r = 1) ∨ (¬ yBears g (g 10 5) (g 12) (g 13) t w ∧ r = 0)) ∧ g' = g)) qNo := by
  refine q_meth (by decide +kernel) rfl (fun _ => (Nat.le_of_ble_eq_true rfl)) (fun X ω C => ?_)
  refine q_nm (fun hn => ?_)
  have r10_5 : 0 ≤ g 10 5 ∧ g 10 5 ≤ 4 := hn 10 5
  refine q_loc [(0, .ref (ω.1 10)), (1, .int (iI t)), (2, .int (iI w))] ⟨rfl, rfl, rfl, trivial⟩ ?_
  refine q_aload_n C 0 dX4_bears_0 rfl rfl ?_
  refine q_iload_n C 1 dX4_bears_1 rfl rfl ?_
  refine q_Vf0 C (KX4_topOf_10 _ _ (by omega)) mX4_topOf ml_X4_41 dX4_bears_2 (by decide) (by decide) rfl rfl rfl (Nat.le_of_ble_eq_true rfl) rfl (by decide) rfl rfl (fun v2 l2 u2 h2 => ?_)
  refine q_istoreV_n C 3 dX4_bears_5 rfl (by decide) (fun v5 e5 => ?_)
  refine q_iload_n C 3 dX4_bears_6 rfl rfl ?_
  refine q_iconst C dX4_bears_7 ?_
  refine q_icmp_eq C 23 dX4_bears_8 (by decide) (by omega) (by omega) (fun c8 => ?_) (fun c8 => ?_)
  · refine q_iconst C dX4_bears_23 ?_
    refine q_goto C 28 dX4_bears_24 (by decide) ?_
    subst e5
    exact q_iretZ C dX4_bears_28 (by omega) (by decide) (⟨by subst h2; unfold yBears; omega, rfl⟩)
  · refine q_aload_n C 0 dX4_bears_11 rfl rfl ?_
    refine q_getr C (b := 10) 0 rfl (by decide) rfl in_X4 (by decide) fl_X4_24 rfl dX4_bears_12 ?_
    refine q_iload_n C 3 dX4_bears_15 rfl rfl ?_
    refine q_Vf0 C (KX0_weightOf _ _ (by omega)) mX0_weightOf ml_X4_45 dX4_bears_16 (by decide) (by decide) rfl rfl rfl (Nat.le_of_ble_eq_true rfl) rfl (by decide) rfl rfl (fun v16 l16 u16 h16 => ?_)
    refine q_iload_n C 2 dX4_bears_19 rfl rfl ?_
    refine q_icmp_lt C 27 dX4_bears_20 (by decide) (by omega) (by omega) (fun c20 => ?_) (fun c20 => ?_)
    · refine q_iconst C dX4_bears_27 ?_
      subst e5
      exact q_iretZ C dX4_bears_28 (by omega) (by decide) (⟨by subst h2; unfold yBears; omega, rfl⟩)
    · refine q_iconst C dX4_bears_23 ?_
      refine q_goto C 28 dX4_bears_24 (by decide) ?_
      subst e5
      exact q_iretZ C dX4_bears_28 (by omega) (by decide) (⟨by subst h2; unfold yBears; omega, rfl⟩)
set_option maxRecDepth 20000 in
theorem KX4_boxesUnder_10 (g : qHp) (x : Int) (hx : -2147483648 ≤ x ∧ x < 2147483648)  : qC yX4_boxesUnder (.code yX4_boxesUnder cX4_boxesUnder 4 (some .int)) 2 0 (fun ad => [.ref (ad 10), .int (iI x)]) g (qPi (fun (r : Int) (g' : qHp) => (r = yUnd (g 10 5) (g 12) (g 13) (g 14) x ∧ 0 ≤ r ∧ r ≤ yHt (g 10 5) (g 12) (ySt (g 14) x)) ∧ g' = g)) qNo := by
  refine q_meth (by decide +kernel) rfl (fun _ => (Nat.le_of_ble_eq_true rfl)) (fun X ω C => ?_)
  refine q_nm (fun hn => ?_)
  have r10_5 : 0 ≤ g 10 5 ∧ g 10 5 ≤ 4 := hn 10 5
  refine q_loc [(0, .ref (ω.1 10)), (1, .int (iI x))] ⟨rfl, rfl, trivial⟩ ?_
  refine q_aload_n C 0 dX4_boxesUnder_0 rfl rfl ?_
  refine q_iload_n C 1 dX4_boxesUnder_1 rfl rfl ?_
  refine q_Vf0 C (KX4_stackWith_10 _ _ (by omega)) mX4_stackWith ml_X4_53 dX4_boxesUnder_2 (by decide) (by decide) rfl rfl rfl (Nat.le_of_ble_eq_true rfl) rfl (by decide) rfl rfl (fun v2 l2 u2 h2 => ?_)
  refine q_istoreV_n C 2 dX4_boxesUnder_5 rfl (by decide) (fun v5 e5 => ?_)
  refine q_iconst C dX4_boxesUnder_6 ?_
  refine q_istoreV_n C 3 dX4_boxesUnder_7 rfl (by decide) (fun v7 e7 => ?_)
  have hq5 : 0 ≤ yHt (g 10 5) (g 12) v5 ∧ yHt (g 10 5) (g 12) v5 ≤ 4 := by
    have q := hn 12 v5
    have q1 : 0 ≤ (g 12) v5 := q.1
    have q2 : (g 12) v5 ≤ 4 := q.2
    unfold yHt; split <;> omega
  have loop : ∀ (n : Nat) (i : Int), ((yHt (g 10 5) (g 12) v5 - i) < (n : Int)) → (0 ≤ i) → (i ≤ yHt (g 10 5) (g 12) v5) → (fstI (fun k => decide (yAt (g 10 5) (g 12) (g 13) v5 k = x)) (yHt (g 10 5) (g 12) v5).toNat 0 = fstI (fun k => decide (yAt (g 10 5) (g 12) (g 13) v5 k = x)) (yHt (g 10 5) (g 12) v5 - i).toNat i) → qT X ω 4 0 (qEnd X ω (qPi (fun (r : Int) (g' : qHp) => (r = yUnd (g 10 5) (g 12) (g 13) (g 14) x ∧ 0 ≤ r ∧ r ≤ yHt (g 10 5) (g 12) (ySt (g 14) x)) ∧ g' = g)) qNo 0) g 8 [(0, .ref (ω.1 10)), (1, .int (iI x)), (2, .int (iI v5)), (3, .int (iI i))] [] := by
    intro n
    induction n with
    | zero => intro i hm hi hi2 hm2; exfalso; omega
    | succ n ih =>
      intro i hm hi hi2 hm2
      refine q_iload_n C 3 dX4_boxesUnder_8 rfl rfl ?_
      refine q_aload_n C 0 dX4_boxesUnder_9 rfl rfl ?_
      refine q_iload_n C 2 dX4_boxesUnder_10 rfl rfl ?_
      refine q_Vf0 C (KX4_heightOf_10 _ _ (by omega)) mX4_heightOf ml_X4_50 dX4_boxesUnder_11 (by decide) (by decide) rfl rfl rfl (Nat.le_of_ble_eq_true rfl) rfl (by decide) rfl rfl (fun v11 l11 u11 h11 => ?_)
      refine q_icmp_ge C 33 dX4_boxesUnder_14 (by decide) (by omega) (by omega) (fun c14 => ?_) (fun c14 => ?_)
      · refine q_iload_n C 3 dX4_boxesUnder_33 rfl rfl ?_
        refine q_iretI C dX4_boxesUnder_34 (by omega) (by decide) ⟨⟨?_, hi, ?_⟩, rfl⟩
        · subst e5
          subst h2
          unfold yUnd
          rw [hm2]
          rw [show (yHt (g 10 5) (g 12) (ySt (g 14) x) - i).toNat = 0 by omega]
          rfl
        · subst e5
          subst h2
          exact hi2
      · refine q_aload_n C 0 dX4_boxesUnder_17 rfl rfl ?_
        refine q_iload_n C 2 dX4_boxesUnder_18 rfl rfl ?_
        refine q_iload_n C 3 dX4_boxesUnder_19 rfl rfl ?_
        refine q_Vf0 C (KX4_boxOn_10 _ _ (by omega) _ (by omega)) mX4_boxOn ml_X4_56 dX4_boxesUnder_20 (by decide) (by decide) rfl rfl rfl (Nat.le_of_ble_eq_true rfl) rfl (by decide) rfl rfl (fun v20 l20 u20 h20 => ?_)
        refine q_iload_n C 1 dX4_boxesUnder_23 rfl rfl ?_
        refine q_icmp_eq C 33 dX4_boxesUnder_24 (by decide) (by omega) (by omega) (fun c24 => ?_) (fun c24 => ?_)
        · refine q_iload_n C 3 dX4_boxesUnder_33 rfl rfl ?_
          refine q_iretI C dX4_boxesUnder_34 (by omega) (by decide) ⟨⟨?_, hi, ?_⟩, rfl⟩
          · subst e5
            subst h2
            unfold yUnd
            rw [hm2]
            rw [show (yHt (g 10 5) (g 12) (ySt (g 14) x) - i).toNat = ((yHt (g 10 5) (g 12) (ySt (g 14) x) - i).toNat - 1) + 1 by omega, fstI_t (decide_eq_true (by omega))]
          · subst e5
            subst h2
            exact hi2
        · refine q_iinc C dX4_boxesUnder_27 rfl (by decide) (fun v27 e27 => ?_)
          refine q_goto C 8 dX4_boxesUnder_30 (by decide) ?_
          refine q_loc [(0, .ref (ω.1 10)), (1, .int (iI x)), (2, .int (iI v5)), (3, .int (iI v27))] ⟨rfl, rfl, rfl, rfl, trivial⟩ ?_
          exact ih v27 (by omega) (by omega) (by omega) (by subst e27; exact fstI_next (p := fun k => decide (yAt (g 10 5) (g 12) (g 13) v5 k = x)) (by omega) (decide_eq_false (by omega)) hm2)
  refine q_loc [(0, .ref (ω.1 10)), (1, .int (iI x)), (2, .int (iI v5)), (3, .int (iI v7))] ⟨rfl, rfl, rfl, rfl, trivial⟩ ?_
  exact loop ((yHt (g 10 5) (g 12) v5 - v7).toNat + 1) v7 (by omega) (by omega) (by omega) (by rw [e7, Int.sub_zero])
set_option maxRecDepth 20000 in
theorem KX4_boxesOver_10 (g : qHp) (x : Int) (hx : -2147483648 ≤ x ∧ x < 2147483648)  : qC yX4_boxesOver (.code yX4_boxesOver cX4_boxesOver 3 (some .int)) 3 0 (fun ad => [.ref (ad 10), .int (iI x)]) g (qPi (fun (r : Int) (g' : qHp) => (r = yOvr (g 10 5) (g 12) (g 13) (g 14) x ∧ -1 ≤ r ∧ r ≤ 3) ∧ g' = g)) qNo := by
  refine q_meth (by decide +kernel) rfl (fun _ => (Nat.le_of_ble_eq_true rfl)) (fun X ω C => ?_)
  refine q_nm (fun hn => ?_)
  have r10_5 : 0 ≤ g 10 5 ∧ g 10 5 ≤ 4 := hn 10 5
  have hq5 : ∀ v, 0 ≤ yHt (g 10 5) (g 12) v ∧ yHt (g 10 5) (g 12) v ≤ 4 := by
    intro v
    have q := hn 12 v
    have q1 : 0 ≤ (g 12) v := q.1
    have q2 : (g 12) v ≤ 4 := q.2
    unfold yHt; split <;> omega
  refine q_loc [(0, .ref (ω.1 10)), (1, .int (iI x))] ⟨rfl, rfl, trivial⟩ ?_
  refine q_aload_n C 0 dX4_boxesOver_0 rfl rfl ?_
  refine q_iload_n C 1 dX4_boxesOver_1 rfl rfl ?_
  refine q_Vf0 C (KX4_stackWith_10 _ _ (by omega)) mX4_stackWith ml_X4_53 dX4_boxesOver_2 (by decide) (by decide) rfl rfl rfl (Nat.le_of_ble_eq_true rfl) rfl (by decide) rfl rfl (fun v2 l2 u2 h2 => ?_)
  refine q_istoreV_n C 2 dX4_boxesOver_5 rfl (by decide) (fun v5 e5 => ?_)
  refine q_iload_n C 2 dX4_boxesOver_6 rfl rfl ?_
  refine q_iconst C dX4_boxesOver_7 ?_
  refine q_icmp_ne C 15 dX4_boxesOver_8 (by decide) (by omega) (by omega) (fun c8 => ?_) (fun c8 => ?_)
  · refine q_aload_n C 0 dX4_boxesOver_15 rfl rfl ?_
    refine q_iload_n C 2 dX4_boxesOver_16 rfl rfl ?_
    have hq6 := hq5 v5
    refine q_Vf0 C (KX4_heightOf_10 _ _ (by omega)) mX4_heightOf ml_X4_50 dX4_boxesOver_17 (by decide) (by decide) rfl rfl rfl (Nat.le_of_ble_eq_true rfl) rfl (by decide) rfl rfl (fun v17 l17 u17 h17 => ?_)
    refine q_iconst C dX4_boxesOver_20 ?_
    refine q_isub C dX4_boxesOver_21 ?_
    refine q_aload_n C 0 dX4_boxesOver_22 rfl rfl ?_
    refine q_iload_n C 1 dX4_boxesOver_23 rfl rfl ?_
    refine q_Vf0 C (KX4_boxesUnder_10 _ _ (by omega)) mX4_boxesUnder ml_X4_60 dX4_boxesOver_24 (by decide) (by decide) rfl rfl rfl (Nat.le_of_ble_eq_true rfl) rfl (by decide) rfl rfl (fun v24 l24 u24 h24 => ?_)
    refine q_isub C dX4_boxesOver_27 ?_
    subst e5
    subst h2
    refine q_iretI C dX4_boxesOver_28 (by omega) (by decide) ⟨⟨?_, by omega, by omega⟩, rfl⟩
    unfold yOvr
    obtain ⟨h24, -⟩ := h24
    rw [if_neg (by omega), ← h24, ← h17]
  · refine q_iconst C dX4_boxesOver_11 ?_
    refine q_goto C 28 dX4_boxesOver_12 (by decide) ?_
    subst e5
    subst h2
    refine q_iretI C dX4_boxesOver_28 (by omega) (by decide) ⟨⟨?_, by omega, by omega⟩, rfl⟩
    unfold yOvr
    rw [if_pos (by omega)]
set_option maxRecDepth 20000 in
theorem KX4_pinnedOver_10 (g : qHp) (x : Int) (hx : -2147483648 ≤ x ∧ x < 2147483648)  : qC yX4_pinnedOver (.code yX4_pinnedOver cX4_pinnedOver 5 (some .int)) 3 0 (fun ad => [.ref (ad 10), .int (iI x)]) g (qPi (fun (r : Int) (g' : qHp) => (r = yPin g (g 10 5) (g 12) (g 13) (g 14) x) ∧ g' = g)) qNo := by
  refine q_meth (by decide +kernel) rfl (fun _ => (Nat.le_of_ble_eq_true rfl)) (fun X ω C => ?_)
  refine q_nm (fun hn => ?_)
  have r10_5 : 0 ≤ g 10 5 ∧ g 10 5 ≤ 4 := hn 10 5
  refine q_loc [(0, .ref (ω.1 10)), (1, .int (iI x))] ⟨rfl, rfl, trivial⟩ ?_
  refine q_aload_n C 0 dX4_pinnedOver_0 rfl rfl ?_
  refine q_iload_n C 1 dX4_pinnedOver_1 rfl rfl ?_
  refine q_Vf0 C (KX4_stackWith_10 _ _ (by omega)) mX4_stackWith ml_X4_53 dX4_pinnedOver_2 (by decide) (by decide) rfl rfl rfl (Nat.le_of_ble_eq_true rfl) rfl (by decide) rfl rfl (fun v2 l2 u2 h2 => ?_)
  refine q_istoreV_n C 2 dX4_pinnedOver_5 rfl (by decide) (fun v5 e5 => ?_)
  refine q_iconst C dX4_pinnedOver_6 ?_
  refine q_istoreV_n C 3 dX4_pinnedOver_7 rfl (by decide) (fun v7 e7 => ?_)
  refine q_aload_n C 0 dX4_pinnedOver_8 rfl rfl ?_
  refine q_iload_n C 1 dX4_pinnedOver_9 rfl rfl ?_
  refine q_Vf0 C (KX4_boxesUnder_10 _ _ (by omega)) mX4_boxesUnder ml_X4_60 dX4_pinnedOver_10 (by decide) (by decide) rfl rfl rfl (Nat.le_of_ble_eq_true rfl) rfl (by decide) rfl rfl (fun v10 l10 u10 h10 => ?_)
  refine q_iconst C dX4_pinnedOver_13 ?_
  refine q_iadd C dX4_pinnedOver_14 ?_
  refine q_istoreV C dX4_pinnedOver_15 (by decide) (fun v15 e15 => ?_)
  have hq5 : 0 ≤ yHt (g 10 5) (g 12) v5 ∧ yHt (g 10 5) (g 12) v5 ≤ 4 := by
    have q := hn 12 v5
    have q1 : 0 ≤ (g 12) v5 := q.1
    have q2 : (g 12) v5 ≤ 4 := q.2
    unfold yHt; split <;> omega
  have loop : ∀ (n : Nat) (q : Int) (i : Int), ((yHt (g 10 5) (g 12) v5 + 1 - i) < (n : Int)) → (v15 ≤ i) → (i ≤ yHt (g 10 5) (g 12) v5 + 1) → (0 ≤ q ∧ q ≤ i) → (cntF (fun k => pinB g (yAt (g 10 5) (g 12) (g 13) v5 k)) (yHt (g 10 5) (g 12) v5 - v15).toNat v15 = q + cntF (fun k => pinB g (yAt (g 10 5) (g 12) (g 13) v5 k)) (yHt (g 10 5) (g 12) v5 - i).toNat i) → qT X ω 5 0 (qEnd X ω (qPi (fun (r : Int) (g' : qHp) => (r = yPin g (g 10 5) (g 12) (g 13) (g 14) x) ∧ g' = g)) qNo 0) g 17 [(0, .ref (ω.1 10)), (1, .int (iI x)), (2, .int (iI v5)), (3, .int (iI q)), (4, .int (iI i))] [] := by
    intro n
    induction n with
    | zero => intro q i hm hi hi2 hq hm2; exfalso; omega
    | succ n ih =>
      intro q i hm hi hi2 hq hm2
      refine q_iload C dX4_pinnedOver_17 rfl ?_
      refine q_aload_n C 0 dX4_pinnedOver_19 rfl rfl ?_
      refine q_iload_n C 2 dX4_pinnedOver_20 rfl rfl ?_
      refine q_Vf0 C (KX4_heightOf_10 _ _ (by omega)) mX4_heightOf ml_X4_50 dX4_pinnedOver_21 (by decide) (by decide) rfl rfl rfl (Nat.le_of_ble_eq_true rfl) rfl (by decide) rfl rfl (fun v21 l21 u21 h21 => ?_)
      refine q_icmp_ge C 53 dX4_pinnedOver_24 (by decide) (by omega) (by omega) (fun c24 => ?_) (fun c24 => ?_)
      · refine q_iload_n C 3 dX4_pinnedOver_53 rfl rfl ?_
        refine q_iretI C dX4_pinnedOver_54 (by omega) (by decide) ⟨?_, rfl⟩
        rw [cntF_0 (c := yHt (g 10 5) (g 12) v5) (i := i) (by omega)] at hm2
        subst e15
        subst e5
        obtain ⟨h10, -⟩ := h10
        subst h10
        subst h2
        unfold yPin
        omega
      · refine q_aload_n C 0 dX4_pinnedOver_27 rfl rfl ?_
        refine q_getr C (b := 10) 0 rfl (by decide) rfl in_X4 (by decide) fl_X4_24 rfl dX4_pinnedOver_28 ?_
        refine q_aload_n C 0 dX4_pinnedOver_31 rfl rfl ?_
        refine q_iload_n C 2 dX4_pinnedOver_32 rfl rfl ?_
        refine q_iload C dX4_pinnedOver_33 rfl ?_
        refine q_Vf0 C (KX4_boxOn_10 _ _ (by omega) _ (by omega)) mX4_boxOn ml_X4_56 dX4_pinnedOver_35 (by decide) (by decide) rfl rfl rfl (Nat.le_of_ble_eq_true rfl) rfl (by decide) rfl rfl (fun v35 l35 u35 h35 => ?_)
        refine q_Vf0 C (KX0_isPinned _ _ (by omega)) mX0_isPinned ml_X4_63 dX4_pinnedOver_38 (by decide) (by decide) rfl rfl rfl (Nat.le_of_ble_eq_true rfl) rfl (by decide) rfl rfl (fun v38 l38 u38 h38 => ?_)
        refine q_ifeq C 47 dX4_pinnedOver_41 (by decide) (by omega) (fun c41 => ?_) (fun c41 => ?_)
        · refine q_iinc C dX4_pinnedOver_47 rfl (by decide) (fun v47 e47 => ?_)
          refine q_goto C 17 dX4_pinnedOver_50 (by decide) ?_
          refine q_loc [(0, .ref (ω.1 10)), (1, .int (iI x)), (2, .int (iI v5)), (3, .int (iI q)), (4, .int (iI v47))] ⟨rfl, rfl, rfl, rfl, rfl, trivial⟩ ?_
          exact ih q v47 (by omega) (by omega) (by omega) (by omega) (by subst e47; subst h35; first | (have z := cntF_t (p := fun k => pinB g (yAt (g 10 5) (g 12) (g 13) v5 k)) (c := v21) (i := i) (by omega) (show _ = true by rcases h38 with ⟨z, _⟩ | ⟨_, z⟩; (· exact z); (· omega)); rw [h21] at z; omega) | (have z := cntF_f (p := fun k => pinB g (yAt (g 10 5) (g 12) (g 13) v5 k)) (c := v21) (i := i) (by omega) (show _ = false by rcases h38 with ⟨_, z⟩ | ⟨z, _⟩; (· omega); (· exact z)); rw [h21] at z; omega))
        · refine q_iinc C dX4_pinnedOver_44 rfl (by decide) (fun v44 e44 => ?_)
          refine q_iinc C dX4_pinnedOver_47 rfl (by decide) (fun v47 e47 => ?_)
          refine q_goto C 17 dX4_pinnedOver_50 (by decide) ?_
          refine q_loc [(0, .ref (ω.1 10)), (1, .int (iI x)), (2, .int (iI v5)), (3, .int (iI v44)), (4, .int (iI v47))] ⟨rfl, rfl, rfl, rfl, rfl, trivial⟩ ?_
          exact ih v44 v47 (by omega) (by omega) (by omega) (by omega) (by subst e47 e44; subst h35; first | (have z := cntF_t (p := fun k => pinB g (yAt (g 10 5) (g 12) (g 13) v5 k)) (c := v21) (i := i) (by omega) (show _ = true by rcases h38 with ⟨z, _⟩ | ⟨_, z⟩; (· exact z); (· omega)); rw [h21] at z; omega) | (have z := cntF_f (p := fun k => pinB g (yAt (g 10 5) (g 12) (g 13) v5 k)) (c := v21) (i := i) (by omega) (show _ = false by rcases h38 with ⟨_, z⟩ | ⟨z, _⟩; (· omega); (· exact z)); rw [h21] at z; omega))
  refine q_loc [(0, .ref (ω.1 10)), (1, .int (iI x)), (2, .int (iI v5)), (3, .int (iI v7)), (4, .int (iI v15))] ⟨rfl, rfl, rfl, rfl, rfl, trivial⟩ ?_
  exact loop ((yHt (g 10 5) (g 12) v5 + 1 - v15).toNat + 1) v7 v15 (by omega) (by omega) (by subst e5; subst h2; omega) (by omega) (by rw [e7, Int.zero_add])
set_option maxRecDepth 20000 in
theorem KX4_reasonAgainst_10 (g : qHp) (x : Int) (hx : -2147483648 ≤ x ∧ x < 2147483648) (t : Int) (ht : -2147483648 ≤ t ∧ t < 2147483648)  : qC yX4_reasonAgainst (.code yX4_reasonAgainst cX4_reasonAgainst 4 (some .char)) 2 0 (fun ad => [.ref (ad 10), .int (iI x), .int (iI t)]) g (qPi (fun (r : Int) (g' : qHp) => (yWhyR g (g 10 5) (g 11) (g 12) (g 13) (g 14) x t r ∧ (0 ≤ r ∧ r < 128)) ∧ g' = g)) qNo := by
  refine q_meth (by decide +kernel) rfl (fun _ => (Nat.le_of_ble_eq_true rfl)) (fun X ω C => ?_)
  refine q_nm (fun hn => ?_)
  have r10_5 : 0 ≤ g 10 5 ∧ g 10 5 ≤ 4 := hn 10 5
  refine q_loc [(0, .ref (ω.1 10)), (1, .int (iI x)), (2, .int (iI t))] ⟨rfl, rfl, rfl, trivial⟩ ?_
  refine q_aload_n C 0 dX4_reasonAgainst_0 rfl rfl ?_
  refine q_iload_n C 1 dX4_reasonAgainst_1 rfl rfl ?_
  refine q_Vf0 C (KX4_stackWith_10 _ _ (by omega)) mX4_stackWith ml_X4_53 dX4_reasonAgainst_2 (by decide) (by decide) rfl rfl rfl (Nat.le_of_ble_eq_true rfl) rfl (by decide) rfl rfl (fun v2 l2 u2 h2 => ?_)
  refine q_istoreV_n C 3 dX4_reasonAgainst_5 rfl (by decide) (fun v5 e5 => ?_)
  refine q_iload_n C 3 dX4_reasonAgainst_6 rfl rfl ?_
  refine q_iconst C dX4_reasonAgainst_7 ?_
  refine q_icmp_eq C 20 dX4_reasonAgainst_8 (by decide) (by omega) (by omega) (fun c8 => ?_) (fun c8 => ?_)
  · refine q_bipush C dX4_reasonAgainst_20 (by decide +kernel) ?_
    subst e5
    subst h2
    exact q_iretC C dX4_reasonAgainst_22 (by omega) (by decide) ⟨⟨Or.inl ⟨by first | exact Or.inl (by omega) | exact Or.inr (by rw [← h13]; omega), rfl⟩, by omega⟩, rfl⟩
  · refine q_aload_n C 0 dX4_reasonAgainst_11 rfl rfl ?_
    refine q_iload_n C 3 dX4_reasonAgainst_12 rfl rfl ?_
    refine q_Vf0 C (KX4_topOf_10 _ _ (by omega)) mX4_topOf ml_X4_41 dX4_reasonAgainst_13 (by decide) (by decide) rfl rfl rfl (Nat.le_of_ble_eq_true rfl) rfl (by decide) rfl rfl (fun v13 l13 u13 h13 => ?_)
    refine q_iload_n C 1 dX4_reasonAgainst_16 rfl rfl ?_
    refine q_icmp_eq C 23 dX4_reasonAgainst_17 (by decide) (by omega) (by omega) (fun c17 => ?_) (fun c17 => ?_)
    · refine q_aload_n C 0 dX4_reasonAgainst_23 rfl rfl ?_
      refine q_getr C (b := 10) 0 rfl (by decide) rfl in_X4 (by decide) fl_X4_24 rfl dX4_reasonAgainst_24 ?_
      refine q_iload_n C 1 dX4_reasonAgainst_27 rfl rfl ?_
      refine q_Vf0 C (KX0_isPinned _ _ (by omega)) mX0_isPinned ml_X4_63 dX4_reasonAgainst_28 (by decide) (by decide) rfl rfl rfl (Nat.le_of_ble_eq_true rfl) rfl (by decide) rfl rfl (fun v28 l28 u28 h28 => ?_)
      refine q_ifeq C 37 dX4_reasonAgainst_31 (by decide) (by omega) (fun c31 => ?_) (fun c31 => ?_)
      · refine q_iload_n C 3 dX4_reasonAgainst_37 rfl rfl ?_
        refine q_iload_n C 2 dX4_reasonAgainst_38 rfl rfl ?_
        refine q_icmp_ne C 45 dX4_reasonAgainst_39 (by decide) (by omega) (by omega) (fun c39 => ?_) (fun c39 => ?_)
        · refine q_aload_n C 0 dX4_reasonAgainst_45 rfl rfl ?_
          refine q_iload_n C 2 dX4_reasonAgainst_46 rfl rfl ?_
          refine q_Vf0 C (KX4_isFull_10 _ _ (by omega)) mX4_isFull ml_X4_67 dX4_reasonAgainst_47 (by decide) (by decide) rfl rfl rfl (Nat.le_of_ble_eq_true rfl) rfl (by decide) rfl rfl (fun v47 l47 u47 h47 => ?_)
          refine q_ifeq C 56 dX4_reasonAgainst_50 (by decide) (by omega) (fun c50 => ?_) (fun c50 => ?_)
          · refine q_aload_n C 0 dX4_reasonAgainst_56 rfl rfl ?_
            refine q_iload_n C 2 dX4_reasonAgainst_57 rfl rfl ?_
            refine q_aload_n C 0 dX4_reasonAgainst_58 rfl rfl ?_
            refine q_getr C (b := 10) 0 rfl (by decide) rfl in_X4 (by decide) fl_X4_24 rfl dX4_reasonAgainst_59 ?_
            refine q_iload_n C 1 dX4_reasonAgainst_62 rfl rfl ?_
            refine q_Vf0 C (KX0_weightOf _ _ (by omega)) mX0_weightOf ml_X4_45 dX4_reasonAgainst_63 (by decide) (by decide) rfl rfl rfl (Nat.le_of_ble_eq_true rfl) rfl (by decide) rfl rfl (fun v63 l63 u63 h63 => ?_)
            refine q_Vf0 C (KX4_bears_10 _ _ (by omega) _ (by omega)) mX4_bears ml_X4_70 dX4_reasonAgainst_66 (by decide) (by decide) rfl rfl rfl (Nat.le_of_ble_eq_true rfl) rfl (by decide) rfl rfl (fun v66 l66 u66 h66 => ?_)
            refine q_ifeq C 77 dX4_reasonAgainst_69 (by decide) (by omega) (fun c69 => ?_) (fun c69 => ?_)
            · refine q_bipush C dX4_reasonAgainst_77 (by decide +kernel) ?_
              subst e5
              subst h2
              subst h63
              exact q_iretC C dX4_reasonAgainst_79 (by omega) (by decide) ⟨⟨Or.inr ⟨(by omega : ySt _ x ≠ -1), (by rw [← h13]; omega), Or.inr ⟨by rcases h28 with ⟨_, z⟩ | ⟨z, _⟩; (· omega); (· exact z), Or.inr ⟨by omega, Or.inr ⟨by omega, by rcases h66 with ⟨z, z2⟩ | ⟨z, z2⟩; (· first | exact Or.inl ⟨z, rfl⟩ | (exfalso; omega)); (· first | exact Or.inr ⟨z, rfl⟩ | (exfalso; omega))⟩⟩⟩⟩, by omega⟩, rfl⟩
            · refine q_bipush C dX4_reasonAgainst_72 (by decide +kernel) ?_
              refine q_goto C 79 dX4_reasonAgainst_74 (by decide) ?_
              subst e5
              subst h2
              subst h63
              exact q_iretC C dX4_reasonAgainst_79 (by omega) (by decide) ⟨⟨Or.inr ⟨(by omega : ySt _ x ≠ -1), (by rw [← h13]; omega), Or.inr ⟨by rcases h28 with ⟨_, z⟩ | ⟨z, _⟩; (· omega); (· exact z), Or.inr ⟨by omega, Or.inr ⟨by omega, by rcases h66 with ⟨z, z2⟩ | ⟨z, z2⟩; (· first | exact Or.inl ⟨z, rfl⟩ | (exfalso; omega)); (· first | exact Or.inr ⟨z, rfl⟩ | (exfalso; omega))⟩⟩⟩⟩, by omega⟩, rfl⟩
          · refine q_bipush C dX4_reasonAgainst_53 (by decide +kernel) ?_
            subst e5
            subst h2
            exact q_iretC C dX4_reasonAgainst_55 (by omega) (by decide) ⟨⟨Or.inr ⟨(by omega : ySt _ x ≠ -1), (by rw [← h13]; omega), Or.inr ⟨by rcases h28 with ⟨_, z⟩ | ⟨z, _⟩; (· omega); (· exact z), Or.inr ⟨by omega, Or.inl ⟨by omega, rfl⟩⟩⟩⟩, by omega⟩, rfl⟩
        · refine q_bipush C dX4_reasonAgainst_42 (by decide +kernel) ?_
          subst e5
          subst h2
          exact q_iretC C dX4_reasonAgainst_44 (by omega) (by decide) ⟨⟨Or.inr ⟨(by omega : ySt _ x ≠ -1), (by rw [← h13]; omega), Or.inr ⟨by rcases h28 with ⟨_, z⟩ | ⟨z, _⟩; (· omega); (· exact z), Or.inl ⟨by omega, rfl⟩⟩⟩, by omega⟩, rfl⟩
      · refine q_bipush C dX4_reasonAgainst_34 (by decide +kernel) ?_
        subst e5
        subst h2
        exact q_iretC C dX4_reasonAgainst_36 (by omega) (by decide) ⟨⟨Or.inr ⟨(by omega : ySt _ x ≠ -1), (by rw [← h13]; omega), Or.inl ⟨by rcases h28 with ⟨z, _⟩ | ⟨_, z⟩; (· exact z); (· omega), rfl⟩⟩, by omega⟩, rfl⟩
    · refine q_bipush C dX4_reasonAgainst_20 (by decide +kernel) ?_
      subst e5
      subst h2
      exact q_iretC C dX4_reasonAgainst_22 (by omega) (by decide) ⟨⟨Or.inl ⟨by first | exact Or.inl (by omega) | exact Or.inr (by rw [← h13]; omega), rfl⟩, by omega⟩, rfl⟩
set_option maxRecDepth 20000 in
theorem KX4_put_10 (g : qHp) (x : Int) (hx : -2147483648 ≤ x ∧ x < 2147483648) (s : Int) (hs : -2147483648 ≤ s ∧ s < 2147483648) (hx2 : 0 ≤ x ∧ x ≤ 19) (hs2 : 0 ≤ s ∧ s < (g 10 5) ∧ (g 12) s < (g 11) s) : qC yX4_put (.code yX4_put cX4_put 3 none) 1 0 (fun ad => [.ref (ad 10), .int (iI x), .int (iI s)]) g (qPv (fun g' : qHp => g' = (qUp (qUp (qUp (qUp g 13 (s * 4 + (g 12) s) x) 12 s ((g 12) s + 1)) 14 x s) 10 6 (w32 (g 10 6 + 1))))) qNo := by
  refine q_meth (by decide +kernel) rfl (fun _ => (Nat.le_of_ble_eq_true rfl)) (fun X ω C => ?_)
  refine q_nm (fun hn => ?_)
  have r10_5 : 0 ≤ g 10 5 ∧ g 10 5 ≤ 4 := hn 10 5
  have hr4 : 0 ≤ (g 12) s ∧ (g 11) s ≤ 4 := ⟨(hn 12 s).1, (hn 11 s).2⟩
  refine q_loc [(0, .ref (ω.1 10)), (1, .int (iI x)), (2, .int (iI s))] ⟨rfl, rfl, rfl, trivial⟩ ?_
  refine q_iload_n C 1 dX4_put_0 rfl rfl ?_
  refine q_iflt C 18 dX4_put_1 (by decide) (by omega) (fun c1 => ?_) (fun c1 => ?_)
  · exfalso; omega
  · refine q_iload_n C 1 dX4_put_4 rfl rfl ?_
    refine q_bipush C dX4_put_5 (by decide +kernel) ?_
    refine q_icmp_ge C 18 dX4_put_7 (by decide) (by omega) (by omega) (fun c7 => ?_) (fun c7 => ?_)
    · exfalso; omega
    · refine q_aload_n C 0 dX4_put_10 rfl rfl ?_
      refine q_iload_n C 2 dX4_put_11 rfl rfl ?_
      refine q_Vf0 C (KX4_isFull_10 _ _ (by omega)) mX4_isFull ml_X4_67 dX4_put_12 (by decide) (by decide) rfl rfl rfl (Nat.le_of_ble_eq_true rfl) rfl (by decide) rfl rfl (fun v12 l12 u12 h12 => ?_)
      refine q_ifeq C 19 dX4_put_15 (by decide) (by omega) (fun c15 => ?_) (fun c15 => ?_)
      · refine q_aload_n C 0 dX4_put_19 rfl rfl ?_
        refine q_getr C (b := 10) 3 rfl (by decide) rfl in_X4 (by decide) fl_X4_18 rfl dX4_put_20 ?_
        refine q_iload_n C 2 dX4_put_23 rfl rfl ?_
        refine q_iconst C dX4_put_24 ?_
        refine q_imul C dX4_put_25 ?_
        refine q_aload_n C 0 dX4_put_26 rfl rfl ?_
        refine q_getr C (b := 10) 2 rfl (by decide) rfl in_X4 (by decide) fl_X4_15 rfl dX4_put_27 ?_
        refine q_iload_n C 2 dX4_put_30 rfl rfl ?_
        refine q_iald C (b := 12) (n := 4) 0 4 rfl (by decide) (by decide) (by omega) (fun _ => rfl) dX4_put_31 (fun v31 e31 l31 u31 => ?_)
        refine q_iadd C dX4_put_32 ?_
        refine q_iload_n C 1 dX4_put_33 rfl rfl ?_
        refine q_iast C (b := 13) (n := 16) rfl (by decide) (by decide) (by omega)  (show 0 ≤ _ ∧ _ ≤ 19 from (by omega)) dX4_put_34 ?_
        refine q_aload_n C 0 dX4_put_35 rfl rfl ?_
        refine q_getr C (b := 10) 2 rfl (by decide) rfl in_X4 (by decide) fl_X4_15 rfl dX4_put_36 ?_
        refine q_iload_n C 2 dX4_put_39 rfl rfl ?_
        refine q_dup2 C dX4_put_40 rfl rfl ?_
        refine q_iald C (b := 12) (n := 4) 0 4 rfl (by decide) (by decide) (by omega) (fun _ => rfl) dX4_put_41 (fun v41 e41 l41 u41 => ?_)
        refine q_iconst C dX4_put_42 ?_
        refine q_iadd C dX4_put_43 ?_
        refine q_iast C (b := 12) (n := 4) rfl (by decide) (by decide) (by omega)  (show 0 ≤ _ ∧ _ ≤ 4 from (by have q41 : v41 = g 12 s := by {rw [e41, qUp_k (by decide)]}; omega)) dX4_put_44 ?_
        refine q_aload_n C 0 dX4_put_45 rfl rfl ?_
        refine q_getr C (b := 10) 4 rfl (by decide) rfl in_X4 (by decide) fl_X4_21 rfl dX4_put_46 ?_
        refine q_iload_n C 1 dX4_put_49 rfl rfl ?_
        refine q_iload_n C 2 dX4_put_50 rfl rfl ?_
        refine q_iast C (b := 14) (n := 20) rfl (by decide) (by decide) (by omega)  (show (-1) ≤ _ ∧ _ ≤ 3 from (by omega)) dX4_put_51 ?_
        refine q_aload_n C 0 dX4_put_52 rfl rfl ?_
        refine q_dup C dX4_put_53 rfl ?_
        refine q_geti C (b := 10) 6 6 (-2147483648) 2147483647 rfl (by decide) rfl in_X4 (by decide) fl_X4_38 rfl rfl rfl dX4_put_54 (fun v54 e54 l54 u54 => ?_)
        refine q_iconst C dX4_put_57 ?_
        refine q_iadd C dX4_put_58 ?_
        have q41 : v41 = g 12 s := by rw [e41, qUp_k (by decide)]
        have q54 : v54 = g 10 6 := by rw [e54, qUp_k (by decide), qUp_k (by decide), qUp_k (by decide)]
        refine q_puti C (b := 10) 6 6 (-2147483648) 2147483647 (w32 _) rfl (by decide) rfl in_X4 tyX4_ok nmX4 (by decide) fl_X4_38 rfl (by decide +kernel) rfl rfl rfl (w32_iI _) (by have := w32_rng (v54 + 1); omega) dX4_put_59 ?_
        exact q_retV C dX4_put_62 (by decide) (by rw [e31, q41, q54])
      · exfalso; omega
set_option maxRecDepth 20000 in
theorem KX4_take_10 (g : qHp) (s : Int) (hs : -2147483648 ≤ s ∧ s < 2147483648) (hs2 : 0 ≤ s ∧ s < (g 10 5) ∧ (g 12) s ≠ 0) : qC yX4_take (.code yX4_take cX4_take 3 none) 1 0 (fun ad => [.ref (ad 10), .int (iI s)]) g (qPv (fun g' : qHp => g' = (qUp (qUp (qUp g 12 s ((g 12) s - 1)) 14 ((g 13) (s * 4 + (g 12) s - 1)) (-1)) 10 6 (w32 (g 10 6 - 1))))) qNo := by
  refine q_meth (by decide +kernel) rfl (fun _ => (Nat.le_of_ble_eq_true rfl)) (fun X ω C => ?_)
  refine q_nm (fun hn => ?_)
  have r10_5 : 0 ≤ g 10 5 ∧ g 10 5 ≤ 4 := hn 10 5
  have hr4 : 0 ≤ (g 12) s ∧ (g 12) s ≤ 4 := ⟨(hn 12 s).1, (hn 12 s).2⟩
  have hr5 : 0 ≤ (g 13) (s * 4 + (g 12) s - 1) ∧ (g 13) (s * 4 + (g 12) s - 1) ≤ 19 := ⟨(hn 13 _).1, (hn 13 _).2⟩
  have ht5 : yTop (g 10 5) (g 12) (g 13) s = (g 13) (s * 4 + (g 12) s - 1) := by unfold yTop; rw [if_pos (by omega)]
  refine q_loc [(0, .ref (ω.1 10)), (1, .int (iI s))] ⟨rfl, rfl, trivial⟩ ?_
  refine q_aload_n C 0 dX4_take_0 rfl rfl ?_
  refine q_iload_n C 1 dX4_take_1 rfl rfl ?_
  refine q_Vf0 C (KX4_topOf_10 _ _ (by omega)) mX4_topOf ml_X4_41 dX4_take_2 (by decide) (by decide) rfl rfl rfl (Nat.le_of_ble_eq_true rfl) rfl (by decide) rfl rfl (fun v2 l2 u2 h2 => ?_)
  refine q_istoreV_n C 2 dX4_take_5 rfl (by decide) (fun v5 e5 => ?_)
  refine q_iload_n C 2 dX4_take_6 rfl rfl ?_
  refine q_iconst C dX4_take_7 ?_
  refine q_icmp_ne C 12 dX4_take_8 (by decide) (by omega) (by omega) (fun c8 => ?_) (fun c8 => ?_)
  · refine q_aload_n C 0 dX4_take_12 rfl rfl ?_
    refine q_getr C (b := 10) 2 rfl (by decide) rfl in_X4 (by decide) fl_X4_15 rfl dX4_take_13 ?_
    refine q_iload_n C 1 dX4_take_16 rfl rfl ?_
    refine q_dup2 C dX4_take_17 rfl rfl ?_
    refine q_iald C (b := 12) (n := 4) 0 4 rfl (by decide) (by decide) (by omega) (fun _ => rfl) dX4_take_18 (fun v18 e18 l18 u18 => ?_)
    refine q_iconst C dX4_take_19 ?_
    refine q_isub C dX4_take_20 ?_
    refine q_iast C (b := 12) (n := 4) rfl (by decide) (by decide) (by omega)  (show 0 ≤ _ ∧ _ ≤ 4 from (by omega)) dX4_take_21 ?_
    refine q_aload_n C 0 dX4_take_22 rfl rfl ?_
    refine q_getr C (b := 10) 4 rfl (by decide) rfl in_X4 (by decide) fl_X4_21 rfl dX4_take_23 ?_
    refine q_iload_n C 2 dX4_take_26 rfl rfl ?_
    refine q_iconst C dX4_take_27 ?_
    refine q_iast C (b := 14) (n := 20) rfl (by decide) (by decide) (by omega)  (show (-1) ≤ _ ∧ _ ≤ 3 from (by omega)) dX4_take_28 ?_
    refine q_aload_n C 0 dX4_take_29 rfl rfl ?_
    refine q_dup C dX4_take_30 rfl ?_
    refine q_geti C (b := 10) 6 6 (-2147483648) 2147483647 rfl (by decide) rfl in_X4 (by decide) fl_X4_38 rfl rfl rfl dX4_take_31 (fun v31 e31 l31 u31 => ?_)
    refine q_iconst C dX4_take_34 ?_
    refine q_isub C dX4_take_35 ?_
    have q31 : v31 = g 10 6 := by rw [e31, qUp_k (by decide), qUp_k (by decide)]
    refine q_puti C (b := 10) 6 6 (-2147483648) 2147483647 (w32 _) rfl (by decide) rfl in_X4 tyX4_ok nmX4 (by decide) fl_X4_38 rfl (by decide +kernel) rfl rfl rfl (w32_iI _) (by have := w32_rng (v31 - 1); omega) dX4_take_36 ?_
    subst e18
    subst e5
    subst h2
    exact q_retV C dX4_take_39 (by decide) (by rw [q31, ht5])
  · exfalso; omega
set_option maxRecDepth 20000 in
theorem KX4_shift_10 (g : qHp) (f : Int) (hf : -2147483648 ≤ f ∧ f < 2147483648) (t : Int) (ht : -2147483648 ≤ t ∧ t < 2147483648) (hs2 : 0 ≤ f ∧ f < (g 10 5) ∧ (g 12) f ≠ 0 ∧ f ≠ t) (ht2 : 0 ≤ t ∧ t < (g 10 5) ∧ (g 12) t < (g 11) t) : qC yX4_shift (.code yX4_shift cX4_shift 4 none) 2 0 (fun ad => [.ref (ad 10), .int (iI f), .int (iI t)]) g (qPv (fun g' : qHp => g' = (qUp (qUp (qUp (qUp (qUp (qUp (qUp g 12 f ((g 12) f - 1)) 14 ((g 13) (f * 4 + (g 12) f - 1)) (-1)) 10 6 (w32 (g 10 6 - 1))) 13 (t * 4 + (g 12) t) ((g 13) (f * 4 + (g 12) f - 1))) 12 t ((g 12) t + 1)) 14 ((g 13) (f * 4 + (g 12) f - 1)) t) 10 6 (w32 (w32 (g 10 6 - 1) + 1))))) qNo := by
  refine q_meth (by decide +kernel) rfl (fun _ => (Nat.le_of_ble_eq_true rfl)) (fun X ω C => ?_)
  refine q_nm (fun hn => ?_)
  have r10_5 : 0 ≤ g 10 5 ∧ g 10 5 ≤ 4 := hn 10 5
  have hr5 : 0 ≤ (g 13) (f * 4 + (g 12) f - 1) ∧ (g 13) (f * 4 + (g 12) f - 1) ≤ 19 := ⟨(hn 13 _).1, (hn 13 _).2⟩
  have ht5 : yTop (g 10 5) (g 12) (g 13) f = (g 13) (f * 4 + (g 12) f - 1) := by unfold yTop; rw [if_pos (by omega)]
  refine q_loc [(0, .ref (ω.1 10)), (1, .int (iI f)), (2, .int (iI t))] ⟨rfl, rfl, rfl, trivial⟩ ?_
  refine q_aload_n C 0 dX4_shift_0 rfl rfl ?_
  refine q_iload_n C 1 dX4_shift_1 rfl rfl ?_
  refine q_Vf0 C (KX4_topOf_10 _ _ (by omega)) mX4_topOf ml_X4_41 dX4_shift_2 (by decide) (by decide) rfl rfl rfl (Nat.le_of_ble_eq_true rfl) rfl (by decide) rfl rfl (fun v2 l2 u2 h2 => ?_)
  refine q_istoreV_n C 3 dX4_shift_5 rfl (by decide) (fun v5 e5 => ?_)
  refine q_iload_n C 3 dX4_shift_6 rfl rfl ?_
  refine q_iconst C dX4_shift_7 ?_
  refine q_icmp_eq C 24 dX4_shift_8 (by decide) (by omega) (by omega) (fun c8 => ?_) (fun c8 => ?_)
  · exfalso; omega
  · refine q_iload_n C 1 dX4_shift_11 rfl rfl ?_
    refine q_iload_n C 2 dX4_shift_12 rfl rfl ?_
    refine q_icmp_eq C 24 dX4_shift_13 (by decide) (by omega) (by omega) (fun c13 => ?_) (fun c13 => ?_)
    · exfalso; omega
    · refine q_aload_n C 0 dX4_shift_16 rfl rfl ?_
      refine q_iload_n C 2 dX4_shift_17 rfl rfl ?_
      refine q_Vf0 C (KX4_isFull_10 _ _ (by omega)) mX4_isFull ml_X4_67 dX4_shift_18 (by decide) (by decide) rfl rfl rfl (Nat.le_of_ble_eq_true rfl) rfl (by decide) rfl rfl (fun v18 l18 u18 h18 => ?_)
      refine q_ifeq C 25 dX4_shift_21 (by decide) (by omega) (fun c21 => ?_) (fun c21 => ?_)
      · refine q_aload_n C 0 dX4_shift_25 rfl rfl ?_
        refine q_iload_n C 1 dX4_shift_26 rfl rfl ?_
        refine q_Vv0 C (KX4_take_10 _ _ (by omega) (by omega)) mX4_take ml_X4_74 dX4_shift_27 (by decide) (by decide) rfl rfl rfl (Nat.le_of_ble_eq_true rfl) rfl (by decide) rfl rfl ?_
        refine q_aload_n C 0 dX4_shift_30 rfl rfl ?_
        refine q_iload_n C 3 dX4_shift_31 rfl rfl ?_
        refine q_iload_n C 2 dX4_shift_32 rfl rfl ?_
        have g5 : (qUp (qUp (qUp g 12 f ((g 12) f - 1)) 14 ((g 13) (f * 4 + (g 12) f - 1)) (-1)) 10 6 (w32 (g 10 6 - 1))) 10 5 = (g 10 5) := by rw [qUp_j (by decide), qUp_k (by decide), qUp_k (by decide)]
        have g6 : (qUp (qUp (qUp g 12 f ((g 12) f - 1)) 14 ((g 13) (f * 4 + (g 12) f - 1)) (-1)) 10 6 (w32 (g 10 6 - 1))) 11 t = (g 11) t := by rw [qUp_k (by decide), qUp_k (by decide), qUp_k (by decide)]
        have g7 : (qUp (qUp (qUp g 12 f ((g 12) f - 1)) 14 ((g 13) (f * 4 + (g 12) f - 1)) (-1)) 10 6 (w32 (g 10 6 - 1))) 12 t = (g 12) t := by rw [qUp_k (by decide), qUp_k (by decide), qUp_j (by omega)]
        have g8 : (qUp (qUp (qUp g 12 f ((g 12) f - 1)) 14 ((g 13) (f * 4 + (g 12) f - 1)) (-1)) 10 6 (w32 (g 10 6 - 1))) 10 6 = w32 (g 10 6 - 1) := by rw [qUp_s]
        refine q_Vv0 C (KX4_put_10 _ _ (by omega) _ (by omega) (by omega) (by rw [g5, g7, g6]; omega)) mX4_put ml_X4_78 dX4_shift_33 (by decide) (by decide) rfl rfl rfl (Nat.le_of_ble_eq_true rfl) rfl (by decide) rfl rfl ?_
        subst e5
        subst h2
        exact q_retV C dX4_shift_36 (by decide) (by rw [g7, g8, ht5])
      · exfalso; omega
set_option maxRecDepth 20000 in
theorem KX4_copyFrom (g : qHp)  : qC yX4_copyFrom (.code yX4_copyFrom cX4_copyFrom 2 none) 1 0 (fun ad => [.ref (ad 10), .ref (ad 5)]) g (qPv (fun g' : qHp => g' = (qUp (qUp (qCp (qCp (qCp (qCp g 6 11 4) 7 12 4) 8 13 16) 9 14 20) 10 5 (g 5 5)) 10 6 (g 5 6)))) qNo := by
  refine q_meth (by decide +kernel) rfl (fun _ => (Nat.le_of_ble_eq_true rfl)) (fun X ω C => ?_)
  refine q_loc [(0, .ref (ω.1 10)), (1, .ref (ω.1 5))] ⟨rfl, rfl, trivial⟩ ?_
  refine q_aload_n C 1 dX4_copyFrom_0 rfl rfl ?_
  refine q_getr C (b := 5) 1 rfl (by decide) rfl in_X4 (by decide) fl_X4_9 rfl dX4_copyFrom_1 ?_
  refine q_iconst C dX4_copyFrom_4 ?_
  refine q_aload_n C 0 dX4_copyFrom_5 rfl rfl ?_
  refine q_getr C (b := 10) 1 rfl (by decide) rfl in_X4 (by decide) fl_X4_9 rfl dX4_copyFrom_6 ?_
  refine q_iconst C dX4_copyFrom_9 ?_
  refine q_iconst C dX4_copyFrom_10 ?_
  refine q_copyi C (a := 6) (b := 11) (na := 4) rfl rfl (by decide) (by decide) (by decide) (by omega) (by decide) (fun _ => rfl) ml_ac w_acn w_acs w_aci (by decide) (Nat.le_of_ble_eq_true rfl) (by decide +kernel) dX4_copyFrom_11 ?_
  refine q_aload_n C 1 dX4_copyFrom_14 rfl rfl ?_
  refine q_getr C (b := 5) 2 rfl (by decide) rfl in_X4 (by decide) fl_X4_15 rfl dX4_copyFrom_15 ?_
  refine q_iconst C dX4_copyFrom_18 ?_
  refine q_aload_n C 0 dX4_copyFrom_19 rfl rfl ?_
  refine q_getr C (b := 10) 2 rfl (by decide) rfl in_X4 (by decide) fl_X4_15 rfl dX4_copyFrom_20 ?_
  refine q_iconst C dX4_copyFrom_23 ?_
  refine q_iconst C dX4_copyFrom_24 ?_
  refine q_copyi C (a := 7) (b := 12) (na := 4) rfl rfl (by decide) (by decide) (by decide) (by omega) (by decide) (fun _ => rfl) ml_ac w_acn w_acs w_aci (by decide) (Nat.le_of_ble_eq_true rfl) (by decide +kernel) dX4_copyFrom_25 ?_
  refine q_aload_n C 1 dX4_copyFrom_28 rfl rfl ?_
  refine q_getr C (b := 5) 3 rfl (by decide) rfl in_X4 (by decide) fl_X4_18 rfl dX4_copyFrom_29 ?_
  refine q_iconst C dX4_copyFrom_32 ?_
  refine q_aload_n C 0 dX4_copyFrom_33 rfl rfl ?_
  refine q_getr C (b := 10) 3 rfl (by decide) rfl in_X4 (by decide) fl_X4_18 rfl dX4_copyFrom_34 ?_
  refine q_iconst C dX4_copyFrom_37 ?_
  refine q_bipush C dX4_copyFrom_38 (by decide +kernel) ?_
  refine q_copyi C (a := 8) (b := 13) (na := 16) rfl rfl (by decide) (by decide) (by decide) (by omega) (by decide) (fun _ => rfl) ml_ac w_acn w_acs w_aci (by decide) (Nat.le_of_ble_eq_true rfl) (by decide +kernel) dX4_copyFrom_40 ?_
  refine q_aload_n C 1 dX4_copyFrom_43 rfl rfl ?_
  refine q_getr C (b := 5) 4 rfl (by decide) rfl in_X4 (by decide) fl_X4_21 rfl dX4_copyFrom_44 ?_
  refine q_iconst C dX4_copyFrom_47 ?_
  refine q_aload_n C 0 dX4_copyFrom_48 rfl rfl ?_
  refine q_getr C (b := 10) 4 rfl (by decide) rfl in_X4 (by decide) fl_X4_21 rfl dX4_copyFrom_49 ?_
  refine q_iconst C dX4_copyFrom_52 ?_
  refine q_bipush C dX4_copyFrom_53 (by decide +kernel) ?_
  refine q_copyi C (a := 9) (b := 14) (na := 20) rfl rfl (by decide) (by decide) (by decide) (by omega) (by decide) (fun _ => rfl) ml_ac w_acn w_acs w_aci (by decide) (Nat.le_of_ble_eq_true rfl) (by decide +kernel) dX4_copyFrom_55 ?_
  refine q_aload_n C 0 dX4_copyFrom_58 rfl rfl ?_
  refine q_aload_n C 1 dX4_copyFrom_59 rfl rfl ?_
  refine q_geti C (b := 5) 5 5 0 4 rfl (by decide) rfl in_X4 (by decide) fl_X4_34 rfl rfl rfl dX4_copyFrom_60 (fun v60 e60 l60 u60 => ?_)
  refine q_puti C (b := 10) 5 5 0 4 _ rfl (by decide) rfl in_X4 tyX4_ok nmX4 (by decide) fl_X4_34 rfl (by decide +kernel) rfl rfl rfl rfl (by omega) dX4_copyFrom_63 ?_
  refine q_aload_n C 0 dX4_copyFrom_66 rfl rfl ?_
  refine q_aload_n C 1 dX4_copyFrom_67 rfl rfl ?_
  refine q_geti C (b := 5) 6 6 (-2147483648) 2147483647 rfl (by decide) rfl in_X4 (by decide) fl_X4_38 rfl rfl rfl dX4_copyFrom_68 (fun v68 e68 l68 u68 => ?_)
  refine q_puti C (b := 10) 6 6 (-2147483648) 2147483647 _ rfl (by decide) rfl in_X4 tyX4_ok nmX4 (by decide) fl_X4_38 rfl (by decide +kernel) rfl rfl rfl rfl (by omega) dX4_copyFrom_71 ?_
  have q60 : v60 = g 5 5 := by rw [e60, qCp_row (by decide), qCp_row (by decide), qCp_row (by decide), qCp_row (by decide)]
  have q68 : v68 = g 5 6 := by rw [e68, qUp_k (by decide), qCp_row (by decide), qCp_row (by decide), qCp_row (by decide), qCp_row (by decide)]
  exact q_retV C dX4_copyFrom_74 (by decide) (by rw [q60, q68])
end
section
/-! the heap of longs -/
theorem q_lcmpN {X : qEnv} {ω : qOm} {own : String} {cc : ByteArray} {nL : Nat} {ret : Option FieldType} {T : List ExceptionTableEntry} {fr mc k : Nat} {Q : State → Prop} {g : qHp} {pc : Nat} {ls : List (Nat × Value)} {st : List Value} (C : qCx X ω own cc nL ret T fr mc) {a b : Int} (hd : decode cc pc = .ok (.lcmp, 1)) (ha : -9223372036854775808 ≤ a ∧ a < 9223372036854775808) (hb0 : -9223372036854775808 ≤ b ∧ b < 9223372036854775808) (kk : ∀ r : Int, ((a < b ∧ r = -1) ∨ (a = b ∧ r = 0) ∨ (b < a ∧ r = 1)) → qT X ω nL k Q g (pc + 1) ls (.int (iI r) :: st)) : qT X ω nL k Q g pc ls (.long (lI b) :: .long (lI a) :: st) :=
  q_lcmp C hd ha hb0 (kk (qCmp a b) (by unfold qCmp; split <;> (try split) <;> omega))
def uI (f : Int → Int) (i x : Int) : Int → Int := fun j => if j = i then x else f j
theorem uI_s (f : Int → Int) (i x : Int) : uI f i x i = x := by simp [uI]
theorem uI_n {f : Int → Int} {i j x : Int} (h : j ≠ i) : uI f i x j = f j := by simp [uI, h]
theorem qUp_u (g : qHp) (k : Nat) (i x : Int) : qUp g k i x k = uI (g k) i x := by funext j; simp [qUp, uI]
def hpL (f : Int → Int) : Nat → List Int
  | 0 => []
  | n + 1 => f n :: hpL f n
theorem hpL_eq {f f' : Int → Int} : ∀ {n : Nat}, (∀ i : Int, 0 ≤ i → i < n → f' i = f i) → hpL f' n = hpL f n
  | 0, _ => rfl
  | n + 1, h => by
    unfold hpL
    rw [h n (by omega) (by omega), hpL_eq (n := n) (fun i a b => h i a (by omega))]
theorem hpL_push {f : Int → Int} {n : Int} (h : 0 ≤ n) : hpL f (n + 1).toNat = f n :: hpL f n.toNat := by
  have e : (n + 1).toNat = n.toNat + 1 := by omega
  rw [e]
  show f ((n.toNat : Nat) : Int) :: _ = _
  rw [show ((n.toNat : Nat) : Int) = n by omega]
theorem hpL_mem {f : Int → Int} {x : Int} : ∀ {n : Nat}, x ∈ hpL f n ↔ ∃ i : Int, 0 ≤ i ∧ i < n ∧ f i = x
  | 0 => by simp [hpL]; omega
  | n + 1 => by
    simp only [hpL, List.mem_cons, hpL_mem (n := n)]
    constructor
    · rintro (h | ⟨i, a, b, c⟩)
      · exact ⟨n, by omega, by omega, h.symm⟩
      · exact ⟨i, a, by omega, c⟩
    · rintro ⟨i, a, b, c⟩
      by_cases h : i = n
      · exact Or.inl (by rw [← c, h])
      · exact Or.inr ⟨i, a, by omega, c⟩
theorem hpL_R {f : Int → Int} {i x : Int} : ∀ {n : Nat}, 0 ≤ i → i < n → (f i :: hpL (uI f i x) n).Perm (x :: hpL f n)
  | 0, h0, h1 => by omega
  | n + 1, h0, h1 => by
    unfold hpL
    by_cases h : i = n
    · subst h
      rw [uI_s, hpL_eq (f' := uI f n x) (f := f) (fun j a b => uI_n (by omega))]
      exact List.Perm.swap _ _ _
    · rw [uI_n (by omega)]
      refine (List.Perm.swap _ _ _).trans ((List.Perm.cons _ (hpL_R (n := n) h0 (by omega))).trans ?_)
      exact List.Perm.swap _ _ _
/-- two places change their values -/
theorem hpL_swap {f f1 : Int → Int} {i j : Int} {n : Nat} (hi : 0 ≤ i) (hi2 : i < n) (hj : 0 ≤ j) (hj2 : j < n) (hij : i ≠ j) (h1 : f1 i = f j) (h2 : f1 j = f i) (h3 : ∀ k, k ≠ i → k ≠ j → f1 k = f k) : (hpL f1 n).Perm (hpL f n) := by
  have e : f1 = uI (uI f i (f j)) j (f i) := by
    funext k
    by_cases a : k = j
    · rw [a, uI_s, h2]
    · by_cases b : k = i
      · rw [b, uI_n hij, uI_s, h1]
      · rw [uI_n a, uI_n b, h3 k b a]
  have p1 : (f i :: hpL (uI f i (f j)) n).Perm (f j :: hpL f n) := hpL_R hi hi2
  have p2 : (uI f i (f j) j :: hpL (uI (uI f i (f j)) j (f i)) n).Perm (f i :: hpL (uI f i (f j)) n) := hpL_R hj hj2
  rw [uI_n (Ne.symm hij)] at p2
  rw [e]
  exact (List.perm_cons _).mp (p2.trans p1)
def hpO (f : Int → Int) (n : Int) : Prop := ∀ i, 0 < i → i < n → f ((i - 1) / 2) ≤ f i
theorem hpO_min {f : Int → Int} {n : Int} (h : hpO f n) : ∀ (k : Nat) (i : Int), i ≤ k → 0 ≤ i → i < n → f 0 ≤ f i
  | 0, i, a, b, c => by
    have : i = 0 := by omega
    rw [this]
    exact Int.le_refl _
  | k + 1, i, a, b, c => by
    by_cases h0 : i = 0
    · rw [h0]
      exact Int.le_refl _
    · exact Int.le_trans (hpO_min h k ((i - 1) / 2) (by omega) (by omega) (by omega)) (h i (by omega) c)
/-- adding: the hole at a, the value x that is to come there -/
def hpA (f : Int → Int) (n a x : Int) : Prop := (∀ i, 0 < i → i < n + 1 → i ≠ a → uI f a x ((i - 1) / 2) ≤ uI f a x i) ∧ (0 < a → ∀ i, 0 < i → i < n + 1 → (i - 1) / 2 = a → uI f a x ((a - 1) / 2) ≤ uI f a x i)
theorem hpA_0 {f : Int → Int} {n x : Int} (h0 : 0 ≤ n) (h : hpO f n) : hpA f n n x := by
  refine ⟨fun i a b c => ?_, fun a i b c d => by omega⟩
  rw [uI_n (by omega), uI_n c]
  exact h i a (by omega)
theorem hpA_step {f : Int → Int} {n a x : Int} (h0 : 0 < a) (hn : a ≤ n) (h : hpA f n a x) (hx : x < f ((a - 1) / 2)) : hpA (uI f a (f ((a - 1) / 2))) n ((a - 1) / 2) x ∧ (hpL (uI (uI f a (f ((a - 1) / 2))) ((a - 1) / 2) x) (n + 1).toNat).Perm (hpL (uI f a x) (n + 1).toNat) := by
  obtain ⟨o1, o2⟩ := h
  have o2 := o2 h0
  have e1 : uI (uI f a (f ((a - 1) / 2))) ((a - 1) / 2) x a = f ((a - 1) / 2) := by rw [uI_n (by omega), uI_s]
  have e2 : uI (uI f a (f ((a - 1) / 2))) ((a - 1) / 2) x ((a - 1) / 2) = x := uI_s _ _ _
  have e3 : ∀ k, k ≠ a → k ≠ (a - 1) / 2 → uI (uI f a (f ((a - 1) / 2))) ((a - 1) / 2) x k = f k := fun k p q => by rw [uI_n q, uI_n p]
  have d1 : uI f a x a = x := uI_s _ _ _
  have d2 : ∀ k, k ≠ a → uI f a x k = f k := fun k p => uI_n p
  refine ⟨⟨fun i p q r => ?_, fun p i q r t => ?_⟩, hpL_swap (i := a) (j := (a - 1) / 2) (by omega) (by omega) (by omega) (by omega) (by omega) (by rw [e1, d2 _ (by omega)]) (by rw [e2, d1]) (fun k u v => by rw [e3 k u v, d2 k u])⟩
  · by_cases hi : i = a
    · rw [hi, e1, e2]
      omega
    · have u := o1 i p q hi
      by_cases hp : (i - 1) / 2 = a
      · have w := o2 i p q hp
        rw [d2 _ (by omega), d2 _ hi] at w
        rw [hp, e1, e3 i hi r]
        exact w
      · rw [d2 _ hp, d2 _ hi] at u
        by_cases hq : (i - 1) / 2 = (a - 1) / 2
        · rw [hq, e2, e3 i hi r]
          rw [hq] at u
          omega
        · rw [e3 _ hp hq, e3 i hi r]
          exact u
  · have u1 := o1 ((a - 1) / 2) p (by omega) (by omega)
    rw [d2 _ (by omega), d2 _ (by omega)] at u1
    rw [e3 (((a - 1) / 2 - 1) / 2) (by omega) (by omega)]
    by_cases hi : i = a
    · rw [hi, e1]
      exact u1
    · rw [e3 i hi (by omega)]
      have u := o1 i q r hi
      rw [t, d2 _ (by omega), d2 _ hi] at u
      omega
theorem hpA_end {f : Int → Int} {n a x : Int} (hn : 0 ≤ a) (h : hpA f n a x) (hx : a ≤ 0 ∨ f ((a - 1) / 2) ≤ x) : hpO (uI f a x) (n + 1) := by
  intro i p q
  by_cases hi : i = a
  · rw [hi, uI_s, uI_n (by omega)]
    omega
  · exact h.1 i p q hi
/-- sinking: the hole at a -/
def hpS (f : Int → Int) (n a x : Int) : Prop := (∀ i, 0 < i → i < n → (i - 1) / 2 ≠ a → uI f a x ((i - 1) / 2) ≤ uI f a x i) ∧ (0 < a → ∀ i, 0 < i → i < n → (i - 1) / 2 = a → uI f a x ((a - 1) / 2) ≤ uI f a x i)
theorem hpS_step {f : Int → Int} {n a c x : Int} (h0 : 0 ≤ a) (hc : (c - 1) / 2 = a) (hc0 : 0 < c) (hcn : c < n) (h : hpS f n a x) (hx : f c < x) (hs : ∀ i, 0 < i → i < n → (i - 1) / 2 = a → f c ≤ f i) : hpS (uI f a (f c)) n c x ∧ (hpL (uI (uI f a (f c)) c x) n.toNat).Perm (hpL (uI f a x) n.toNat) := by
  obtain ⟨o1, o2⟩ := h
  have e1 : uI (uI f a (f c)) c x a = f c := by rw [uI_n (by omega), uI_s]
  have e2 : uI (uI f a (f c)) c x c = x := uI_s _ _ _
  have e3 : ∀ k, k ≠ a → k ≠ c → uI (uI f a (f c)) c x k = f k := fun k p q => by rw [uI_n q, uI_n p]
  have d1 : uI f a x a = x := uI_s _ _ _
  have d2 : ∀ k, k ≠ a → uI f a x k = f k := fun k p => uI_n p
  refine ⟨⟨fun i p q r => ?_, fun p i q r t => ?_⟩, hpL_swap (i := a) (j := c) (by omega) (by omega) (by omega) (by omega) (by omega) (by rw [e1, d2 _ (by omega)]) (by rw [e2, d1]) (fun k u v => by rw [e3 k u v, d2 k u])⟩
  · by_cases hi : i = c
    · rw [hi, hc, e1, e2]
      omega
    · by_cases hia : i = a
      · subst hia
        have w := o2 (by omega) c hc0 hcn hc
        rw [d2 _ (by omega), d2 _ (by omega)] at w
        rw [e1, e3 _ (by omega) r]
        exact w
      · by_cases hp : (i - 1) / 2 = a
        · rw [hp, e1, e3 i hia hi]
          exact hs i p q hp
        · have u := o1 i p q hp
          rw [d2 _ hp, d2 _ hia] at u
          rw [e3 _ hp r, e3 i hia hi]
          exact u
  · rw [hc, e1, e3 i (by omega) (by omega)]
    have u := o1 i q r (by omega)
    rw [t, d2 _ (by omega), d2 _ (by omega)] at u
    exact u
theorem hpS_end {f : Int → Int} {n a x : Int} (h : hpS f n a x) (hx : ∀ i, 0 < i → i < n → (i - 1) / 2 = a → x ≤ f i) (ha : 0 ≤ a) : hpO (uI f a x) n := by
  intro i p q
  by_cases hi : (i - 1) / 2 = a
  · rw [hi, uI_s, uI_n (by omega)]
    exact hx i p q hi
  · exact h.1 i p q hi
/-- all but the heap's items and size stay -/
def hpK (g g' : qHp) : Prop := (∀ k, k ≠ 16 → k ≠ 17 → g' k = g k) ∧ ∀ j, j ≠ 1 → g' 16 j = g 16 j
set_option maxRecDepth 20000 in
theorem KX2_isEmpty (g : qHp)  : qC yX2_isEmpty (.code yX2_isEmpty cX2_isEmpty 1 (some .boolean)) 0 0 (fun ad => [.ref (ad 16)]) g (qPi (fun (r : Int) (g' : qHp) => ((g 16 1 = 0 ∧ r = 1) ∨ (g 16 1 ≠ 0 ∧ r = 0)) ∧ g' = g)) qNo := by
  refine q_meth (by decide +kernel) rfl (fun _ => (Nat.le_of_ble_eq_true rfl)) (fun X ω C => ?_)
  refine q_loc [(0, .ref (ω.1 16))] ⟨rfl, trivial⟩ ?_
  refine q_aload_n C 0 dX2_isEmpty_0 rfl rfl ?_
  refine q_geti C (b := 16) 1 1 0 1024 rfl (by decide) rfl in_X2 (by decide) fl_X2_13 rfl rfl rfl dX2_isEmpty_1 (fun v1 e1 l1 u1 => ?_)
  refine q_ifne C 11 dX2_isEmpty_4 (by decide) (by omega) (fun c4 => ?_) (fun c4 => ?_)
  · refine q_iconst C dX2_isEmpty_11 ?_
    subst e1
    exact q_iretZ C dX2_isEmpty_12 (by omega) (by decide) (⟨by omega, rfl⟩)
  · refine q_iconst C dX2_isEmpty_7 ?_
    refine q_goto C 12 dX2_isEmpty_8 (by decide) ?_
    subst e1
    exact q_iretZ C dX2_isEmpty_12 (by omega) (by decide) (⟨by omega, rfl⟩)
set_option maxRecDepth 20000 in
theorem KX2_clear (g : qHp)  : qC yX2_clear (.code yX2_clear cX2_clear 1 none) 0 0 (fun ad => [.ref (ad 16)]) g (qPv (fun g' : qHp => g' = (qUp g 16 1 0))) qNo := by
  refine q_meth (by decide +kernel) rfl (fun _ => (Nat.le_of_ble_eq_true rfl)) (fun X ω C => ?_)
  refine q_loc [(0, .ref (ω.1 16))] ⟨rfl, trivial⟩ ?_
  refine q_aload_n C 0 dX2_clear_0 rfl rfl ?_
  refine q_iconst C dX2_clear_1 ?_
  refine q_puti C (b := 16) 1 1 0 1024 _ rfl (by decide) rfl in_X2 tyX2_ok nmX2 (by decide) fl_X2_13 rfl (by decide +kernel) rfl rfl rfl rfl (by omega) dX2_clear_2 ?_
  exact q_retV C dX2_clear_5 (by decide) (rfl)
set_option maxRecDepth 20000 in
theorem KX2_add (g : qHp) (x : Int) (hx : -9223372036854775808 ≤ x ∧ x < 9223372036854775808) (hx2 : 0 ≤ x ∧ x ≤ 1099511627775) (hsz : g 16 1 < 1024) (ho : hpO (g 17) (g 16 1)) : qC yX2_add (.code yX2_add cX2_add 4 none) 0 0 (fun ad => [.ref (ad 16), .long (lI x)]) g (qPv (fun g' : qHp => hpO (g' 17) (g 16 1 + 1) ∧ (hpL (g' 17) (g 16 1 + 1).toNat).Perm (x :: hpL (g 17) (g 16 1).toNat) ∧ g' 16 1 = g 16 1 + 1 ∧ hpK g g')) qNo := by
  refine q_meth (by decide +kernel) rfl (fun _ => (Nat.le_of_ble_eq_true rfl)) (fun X ω C => ?_)
  refine q_nm (fun hn => ?_)
  have r16_1 : 0 ≤ g 16 1 ∧ g 16 1 ≤ 1024 := hn 16 1
  refine q_loc [(0, .ref (ω.1 16)), (1, .long (lI x))] ⟨rfl, rfl, trivial⟩ ?_
  refine q_aload_n C 0 dX2_add_0 rfl rfl ?_
  refine q_geti C (b := 16) 1 1 0 1024 rfl (by decide) rfl in_X2 (by decide) fl_X2_13 rfl rfl rfl dX2_add_1 (fun v1 e1 l1 u1 => ?_)
  refine q_sipush C dX2_add_4 (by decide +kernel) ?_
  refine q_icmp_lt C 11 dX2_add_7 (by decide) (by omega) (by omega) (fun c7 => ?_) (fun c7 => ?_)
  · refine q_aload_n C 0 dX2_add_11 rfl rfl ?_
    refine q_geti C (b := 16) 1 1 0 1024 rfl (by decide) rfl in_X2 (by decide) fl_X2_13 rfl rfl rfl dX2_add_12 (fun v12 e12 l12 u12 => ?_)
    refine q_istoreV_n C 3 dX2_add_15 rfl (by decide) (fun v15 e15 => ?_)
    refine q_aload_n C 0 dX2_add_16 rfl rfl ?_
    refine q_dup C dX2_add_17 rfl ?_
    refine q_geti C (b := 16) 1 1 0 1024 rfl (by decide) rfl in_X2 (by decide) fl_X2_13 rfl rfl rfl dX2_add_18 (fun v18 e18 l18 u18 => ?_)
    refine q_iconst C dX2_add_21 ?_
    refine q_iadd C dX2_add_22 ?_
    refine q_puti C (b := 16) 1 1 0 1024 _ rfl (by decide) rfl in_X2 tyX2_ok nmX2 (by decide) fl_X2_13 rfl (by decide +kernel) rfl rfl rfl rfl (by omega) dX2_add_23 ?_
    have loop : ∀ (n : Nat) (a : Int) (g1 : qHp), ((a) < (n : Int)) → (0 ≤ a ∧ a ≤ g 16 1) → (hpA (g1 17) (g 16 1) a x ∧ (hpL (uI (g1 17) a x) (g 16 1 + 1).toNat).Perm (x :: hpL (g 17) (g 16 1).toNat) ∧ g1 16 1 = g 16 1 + 1 ∧ hpK g g1) → qT X ω 4 0 (qEnd X ω (qPv (fun g' : qHp => hpO (g' 17) (g 16 1 + 1) ∧ (hpL (g' 17) (g 16 1 + 1).toNat).Perm (x :: hpL (g 17) (g 16 1).toNat) ∧ g' 16 1 = g 16 1 + 1 ∧ hpK g g')) qNo 0) g1 26 [(0, .ref (ω.1 16)), (1, .long (lI x)), (3, .int (iI a))] [] := by
      intro n
      induction n with
      | zero => intro a g1 hm ha hi; exfalso; omega
      | succ n ih =>
        intro a g1 hm ha hi
        obtain ⟨h1, h2, h3, h4⟩ := hi
        refine q_iload_n C 3 dX2_add_26 rfl rfl ?_
        refine q_ifle C 70 dX2_add_27 (by decide) (by omega) (fun c27 => ?_) (fun c27 => ?_)
        · refine q_aload_n C 0 dX2_add_70 rfl rfl ?_
          refine q_getr C (b := 16) 0 rfl (by decide) rfl in_X2 (by decide) fl_X2_9 rfl dX2_add_71 ?_
          refine q_iload_n C 3 dX2_add_74 rfl rfl ?_
          refine q_lload_n C 1 dX2_add_75 rfl rfl ?_
          refine q_last C (b := 17) (n := 1024) rfl (by decide) (by decide) (by omega)  (show 0 ≤ _ ∧ _ ≤ 1099511627775 from (by omega)) dX2_add_76 ?_
          refine q_retV C dX2_add_77 (by decide) ⟨?_, ?_, by rw [qUp_k (by decide)]; exact h3, fun k k1 k2 => by rw [qUp_row k2]; exact h4.1 k k1 k2, fun j hj => by rw [qUp_k (by decide)]; exact h4.2 j hj⟩
          · rw [qUp_u]
            exact hpA_end ha.1 h1 (by omega)
          · rw [qUp_u]
            exact h2
        · refine q_aload_n C 0 dX2_add_30 rfl rfl ?_
          refine q_getr C (b := 16) 0 rfl (by decide) rfl in_X2 (by decide) fl_X2_9 rfl dX2_add_31 ?_
          refine q_iload_n C 3 dX2_add_34 rfl rfl ?_
          refine q_iconst C dX2_add_35 ?_
          refine q_isub C dX2_add_36 ?_
          refine q_iconst C dX2_add_37 ?_
          refine q_idiv C dX2_add_38 (by omega) (by omega) ?_
          refine q_lald C (b := 17) (n := 1024) 0 1099511627775 rfl (by decide) (by decide) (by omega) (fun _ => rfl) dX2_add_39 (fun v39 e39 l39 u39 => ?_)
          refine q_lload_n C 1 dX2_add_40 rfl rfl ?_
          refine q_lcmpN C dX2_add_41 (by omega) (by omega) (fun v41 h41 => ?_)
          refine q_ifle C 70 dX2_add_42 (by decide) (by omega) (fun c42 => ?_) (fun c42 => ?_)
          · refine q_aload_n C 0 dX2_add_70 rfl rfl ?_
            refine q_getr C (b := 16) 0 rfl (by decide) rfl in_X2 (by decide) fl_X2_9 rfl dX2_add_71 ?_
            refine q_iload_n C 3 dX2_add_74 rfl rfl ?_
            refine q_lload_n C 1 dX2_add_75 rfl rfl ?_
            refine q_last C (b := 17) (n := 1024) rfl (by decide) (by decide) (by omega)  (show 0 ≤ _ ∧ _ ≤ 1099511627775 from (by omega)) dX2_add_76 ?_
            refine q_retV C dX2_add_77 (by decide) ⟨?_, ?_, by rw [qUp_k (by decide)]; exact h3, fun k k1 k2 => by rw [qUp_row k2]; exact h4.1 k k1 k2, fun j hj => by rw [qUp_k (by decide)]; exact h4.2 j hj⟩
            · rw [qUp_u]
              exact hpA_end ha.1 h1 (by subst e39; omega)
            · rw [qUp_u]
              exact h2
          · refine q_aload_n C 0 dX2_add_45 rfl rfl ?_
            refine q_getr C (b := 16) 0 rfl (by decide) rfl in_X2 (by decide) fl_X2_9 rfl dX2_add_46 ?_
            refine q_iload_n C 3 dX2_add_49 rfl rfl ?_
            refine q_aload_n C 0 dX2_add_50 rfl rfl ?_
            refine q_getr C (b := 16) 0 rfl (by decide) rfl in_X2 (by decide) fl_X2_9 rfl dX2_add_51 ?_
            refine q_iload_n C 3 dX2_add_54 rfl rfl ?_
            refine q_iconst C dX2_add_55 ?_
            refine q_isub C dX2_add_56 ?_
            refine q_iconst C dX2_add_57 ?_
            refine q_idiv C dX2_add_58 (by omega) (by omega) ?_
            refine q_lald C (b := 17) (n := 1024) 0 1099511627775 rfl (by decide) (by decide) (by omega) (fun _ => rfl) dX2_add_59 (fun v59 e59 l59 u59 => ?_)
            refine q_last C (b := 17) (n := 1024) rfl (by decide) (by decide) (by omega)  (show 0 ≤ _ ∧ _ ≤ 1099511627775 from (by omega)) dX2_add_60 ?_
            refine q_iload_n C 3 dX2_add_61 rfl rfl ?_
            refine q_iconst C dX2_add_62 ?_
            refine q_isub C dX2_add_63 ?_
            refine q_iconst C dX2_add_64 ?_
            refine q_idiv C dX2_add_65 (by omega) (by omega) ?_
            refine q_istoreV_n C 3 dX2_add_66 rfl (by decide) (fun v66 e66 => ?_)
            refine q_goto C 26 dX2_add_67 (by decide) ?_
            refine q_loc [(0, .ref (ω.1 16)), (1, .long (lI x)), (3, .int (iI v66))] ⟨rfl, rfl, rfl, trivial⟩ ?_
            exact ih v66 _ (by omega) (by omega) (by subst e66; subst e39; have e59 : v59 = g1 17 ((a - 1) / 2) := e59; subst e59; have q := hpA_step (by omega) ha.2 h1 (by omega); rw [qUp_u]; exact ⟨q.1, q.2.trans h2, by rw [qUp_k (by decide)]; exact h3, fun k k1 k2 => by rw [qUp_row k2]; exact h4.1 k k1 k2, fun j hj => by rw [qUp_k (by decide)]; exact h4.2 j hj⟩)
    refine q_loc [(0, .ref (ω.1 16)), (1, .long (lI x)), (3, .int (iI v15))] ⟨rfl, rfl, rfl, trivial⟩ ?_
    exact loop ((v15).toNat + 1) v15 _ (by omega) (by omega) ⟨by rw [e15, e12, qUp_row (by decide)]; exact hpA_0 r16_1.1 ho, by rw [e15, e12, qUp_row (by decide), hpL_push r16_1.1, uI_s, hpL_eq (f' := uI (g 17) (g 16 1) x) (f := g 17) (fun j p q => uI_n (by omega))], by rw [qUp_s, e18], fun k k1 k2 => qUp_row k1, fun j hj => qUp_j hj⟩
  · exfalso; omega
set_option maxRecDepth 20000 in
theorem KX2_sinkFromTop (g : qHp) (x : Int) (hx : -9223372036854775808 ≤ x ∧ x < 9223372036854775808) (hx2 : 0 ≤ x ∧ x ≤ 1099511627775) (ho : ∀ i, 0 < i → i < g 16 1 → (i - 1) / 2 ≠ 0 → g 17 ((i - 1) / 2) ≤ g 17 i) : qC yX2_sinkFromTop (.code yX2_sinkFromTop cX2_sinkFromTop 5 none) 0 0 (fun ad => [.ref (ad 16), .long (lI x)]) g (qPv (fun g' : qHp => hpO (g' 17) (g 16 1) ∧ (0 < g 16 1 → (g 17 0 :: hpL (g' 17) (g 16 1).toNat).Perm (x :: hpL (g 17) (g 16 1).toNat)) ∧ g' 16 = g 16 ∧ ∀ k, k ≠ 17 → g' k = g k)) qNo := by
  refine q_meth (by decide +kernel) rfl (fun _ => (Nat.le_of_ble_eq_true rfl)) (fun X ω C => ?_)
  refine q_nm (fun hn => ?_)
  have r16_1 : 0 ≤ g 16 1 ∧ g 16 1 ≤ 1024 := hn 16 1
  refine q_loc [(0, .ref (ω.1 16)), (1, .long (lI x))] ⟨rfl, rfl, trivial⟩ ?_
  refine q_iconst C dX2_sinkFromTop_0 ?_
  refine q_istoreV_n C 3 dX2_sinkFromTop_1 rfl (by decide) (fun v1 e1 => ?_)
  refine q_iconst C dX2_sinkFromTop_2 ?_
  refine q_istoreV C dX2_sinkFromTop_3 (by decide) (fun v3 e3 => ?_)
  have loop : ∀ (n : Nat) (a b : Int) (g1 : qHp), ((1025 - a) < (n : Int)) → (0 ≤ a ∧ a ≤ 1023 ∧ b = 2 * a + 1 ∧ (a = 0 ∨ a < g 16 1)) → (hpS (g1 17) (g 16 1) a x ∧ (0 < g 16 1 → (g 17 0 :: hpL (uI (g1 17) a x) (g 16 1).toNat).Perm (x :: hpL (g 17) (g 16 1).toNat)) ∧ g1 16 = g 16 ∧ ∀ k, k ≠ 17 → g1 k = g k) → qT X ω 5 0 (qEnd X ω (qPv (fun g' : qHp => hpO (g' 17) (g 16 1) ∧ (0 < g 16 1 → (g 17 0 :: hpL (g' 17) (g 16 1).toNat).Perm (x :: hpL (g 17) (g 16 1).toNat)) ∧ g' 16 = g 16 ∧ ∀ k, k ≠ 17 → g' k = g k)) qNo 0) g1 5 [(0, .ref (ω.1 16)), (1, .long (lI x)), (3, .int (iI a)), (4, .int (iI b))] [] := by
    intro n
    induction n with
    | zero => intro a b g1 hm ha hh; exfalso; omega
    | succ n ih =>
      intro a b g1 hm ha hh
      obtain ⟨h1, h2, h3, h4⟩ := hh
      have hs1 : g1 16 1 = g 16 1 := by rw [h3]
      refine q_iload C dX2_sinkFromTop_5 rfl ?_
      refine q_aload_n C 0 dX2_sinkFromTop_7 rfl rfl ?_
      refine q_geti C (b := 16) 1 1 0 1024 rfl (by decide) rfl in_X2 (by decide) fl_X2_13 rfl rfl rfl dX2_sinkFromTop_8 (fun v8 e8 l8 u8 => ?_)
      refine q_icmp_ge C 89 dX2_sinkFromTop_11 (by decide) (by omega) (by omega) (fun c11 => ?_) (fun c11 => ?_)
      · refine q_aload_n C 0 dX2_sinkFromTop_89 rfl rfl ?_
        refine q_getr C (b := 16) 0 rfl (by decide) rfl in_X2 (by decide) fl_X2_9 rfl dX2_sinkFromTop_90 ?_
        refine q_iload_n C 3 dX2_sinkFromTop_93 rfl rfl ?_
        refine q_lload_n C 1 dX2_sinkFromTop_94 rfl rfl ?_
        refine q_last C (b := 17) (n := 1024) rfl (by decide) (by decide) (by omega)  (show 0 ≤ _ ∧ _ ≤ 1099511627775 from (by omega)) dX2_sinkFromTop_95 ?_
        refine q_retV C dX2_sinkFromTop_96 (by decide) ⟨?_, fun hz => ?_, by rw [qUp_row (by decide)]; exact h3, fun k k1 => by rw [qUp_row k1]; exact h4 k k1⟩
        · rw [qUp_u]
          exact hpS_end h1 (fun i p q r => by exfalso; omega) ha.1
        · rw [qUp_u]
          exact h2 hz
      · refine q_iload C dX2_sinkFromTop_14 rfl ?_
        refine q_iconst C dX2_sinkFromTop_16 ?_
        refine q_iadd C dX2_sinkFromTop_17 ?_
        refine q_aload_n C 0 dX2_sinkFromTop_18 rfl rfl ?_
        refine q_geti C (b := 16) 1 1 0 1024 rfl (by decide) rfl in_X2 (by decide) fl_X2_13 rfl rfl rfl dX2_sinkFromTop_19 (fun v19 e19 l19 u19 => ?_)
        refine q_icmp_ge C 48 dX2_sinkFromTop_22 (by decide) (by omega) (by omega) (fun c22 => ?_) (fun c22 => ?_)
        · refine q_aload_n C 0 dX2_sinkFromTop_48 rfl rfl ?_
          refine q_getr C (b := 16) 0 rfl (by decide) rfl in_X2 (by decide) fl_X2_9 rfl dX2_sinkFromTop_49 ?_
          refine q_iload C dX2_sinkFromTop_52 rfl ?_
          refine q_lald C (b := 17) (n := 1024) 0 1099511627775 rfl (by decide) (by decide) (by omega) (fun _ => rfl) dX2_sinkFromTop_54 (fun v54 e54 l54 u54 => ?_)
          refine q_lload_n C 1 dX2_sinkFromTop_55 rfl rfl ?_
          refine q_lcmpN C dX2_sinkFromTop_56 (by omega) (by omega) (fun v56 h56 => ?_)
          refine q_iflt C 63 dX2_sinkFromTop_57 (by decide) (by omega) (fun c57 => ?_) (fun c57 => ?_)
          · refine q_aload_n C 0 dX2_sinkFromTop_63 rfl rfl ?_
            refine q_getr C (b := 16) 0 rfl (by decide) rfl in_X2 (by decide) fl_X2_9 rfl dX2_sinkFromTop_64 ?_
            refine q_iload_n C 3 dX2_sinkFromTop_67 rfl rfl ?_
            refine q_aload_n C 0 dX2_sinkFromTop_68 rfl rfl ?_
            refine q_getr C (b := 16) 0 rfl (by decide) rfl in_X2 (by decide) fl_X2_9 rfl dX2_sinkFromTop_69 ?_
            refine q_iload C dX2_sinkFromTop_72 rfl ?_
            refine q_lald C (b := 17) (n := 1024) 0 1099511627775 rfl (by decide) (by decide) (by omega) (fun _ => rfl) dX2_sinkFromTop_74 (fun v74 e74 l74 u74 => ?_)
            refine q_last C (b := 17) (n := 1024) rfl (by decide) (by decide) (by omega)  (show 0 ≤ _ ∧ _ ≤ 1099511627775 from (by omega)) dX2_sinkFromTop_75 ?_
            refine q_iload C dX2_sinkFromTop_76 rfl ?_
            refine q_istoreV_n C 3 dX2_sinkFromTop_78 rfl (by decide) (fun v78 e78 => ?_)
            refine q_iconst C dX2_sinkFromTop_79 ?_
            refine q_iload_n C 3 dX2_sinkFromTop_80 rfl rfl ?_
            refine q_imul C dX2_sinkFromTop_81 ?_
            refine q_iconst C dX2_sinkFromTop_82 ?_
            refine q_iadd C dX2_sinkFromTop_83 ?_
            refine q_istoreV C dX2_sinkFromTop_84 (by decide) (fun v84 e84 => ?_)
            refine q_goto C 5 dX2_sinkFromTop_86 (by decide) ?_
            refine q_loc [(0, .ref (ω.1 16)), (1, .long (lI x)), (3, .int (iI v78)), (4, .int (iI v84))] ⟨rfl, rfl, rfl, rfl, trivial⟩ ?_
            have e74 : v74 = g1 17 b := e74
            have e54 : v54 = g1 17 b := e54
            have q := hpS_step (c := b) (by omega) (by omega) (by omega) (by omega) h1 (by omega) (fun i p q r => by rcases (show i = b ∨ i = b + 1 by omega) with rfl | rfl <;> omega)
            rw [← e74] at q
            subst e78
            exact ih _ v84 _ (by omega) (by omega) ⟨by rw [qUp_u]; exact q.1, fun hz => by rw [qUp_u]; exact (q.2.cons _).trans (h2 hz), by rw [qUp_row (by decide)]; exact h3, fun k k1 => by rw [qUp_row k1]; exact h4 k k1⟩
          · refine q_goto C 89 dX2_sinkFromTop_60 (by decide) ?_
            refine q_aload_n C 0 dX2_sinkFromTop_89 rfl rfl ?_
            refine q_getr C (b := 16) 0 rfl (by decide) rfl in_X2 (by decide) fl_X2_9 rfl dX2_sinkFromTop_90 ?_
            refine q_iload_n C 3 dX2_sinkFromTop_93 rfl rfl ?_
            refine q_lload_n C 1 dX2_sinkFromTop_94 rfl rfl ?_
            refine q_last C (b := 17) (n := 1024) rfl (by decide) (by decide) (by omega)  (show 0 ≤ _ ∧ _ ≤ 1099511627775 from (by omega)) dX2_sinkFromTop_95 ?_
            refine q_retV C dX2_sinkFromTop_96 (by decide) ⟨?_, fun hz => ?_, by rw [qUp_row (by decide)]; exact h3, fun k k1 => by rw [qUp_row k1]; exact h4 k k1⟩
            · rw [qUp_u]
              exact hpS_end h1 (fun i p q r => by rcases (show i = b ∨ i = b + 1 by omega) with rfl | rfl <;> omega) ha.1
            · rw [qUp_u]
              exact h2 hz
        · refine q_aload_n C 0 dX2_sinkFromTop_25 rfl rfl ?_
          refine q_getr C (b := 16) 0 rfl (by decide) rfl in_X2 (by decide) fl_X2_9 rfl dX2_sinkFromTop_26 ?_
          refine q_iload C dX2_sinkFromTop_29 rfl ?_
          refine q_iconst C dX2_sinkFromTop_31 ?_
          refine q_iadd C dX2_sinkFromTop_32 ?_
          refine q_lald C (b := 17) (n := 1024) 0 1099511627775 rfl (by decide) (by decide) (by omega) (fun _ => rfl) dX2_sinkFromTop_33 (fun v33 e33 l33 u33 => ?_)
          refine q_aload_n C 0 dX2_sinkFromTop_34 rfl rfl ?_
          refine q_getr C (b := 16) 0 rfl (by decide) rfl in_X2 (by decide) fl_X2_9 rfl dX2_sinkFromTop_35 ?_
          refine q_iload C dX2_sinkFromTop_38 rfl ?_
          refine q_lald C (b := 17) (n := 1024) 0 1099511627775 rfl (by decide) (by decide) (by omega) (fun _ => rfl) dX2_sinkFromTop_40 (fun v40 e40 l40 u40 => ?_)
          refine q_lcmpN C dX2_sinkFromTop_41 (by omega) (by omega) (fun v41 h41 => ?_)
          refine q_ifge C 48 dX2_sinkFromTop_42 (by decide) (by omega) (fun c42 => ?_) (fun c42 => ?_)
          · refine q_aload_n C 0 dX2_sinkFromTop_48 rfl rfl ?_
            refine q_getr C (b := 16) 0 rfl (by decide) rfl in_X2 (by decide) fl_X2_9 rfl dX2_sinkFromTop_49 ?_
            refine q_iload C dX2_sinkFromTop_52 rfl ?_
            refine q_lald C (b := 17) (n := 1024) 0 1099511627775 rfl (by decide) (by decide) (by omega) (fun _ => rfl) dX2_sinkFromTop_54 (fun v54 e54 l54 u54 => ?_)
            refine q_lload_n C 1 dX2_sinkFromTop_55 rfl rfl ?_
            refine q_lcmpN C dX2_sinkFromTop_56 (by omega) (by omega) (fun v56 h56 => ?_)
            refine q_iflt C 63 dX2_sinkFromTop_57 (by decide) (by omega) (fun c57 => ?_) (fun c57 => ?_)
            · refine q_aload_n C 0 dX2_sinkFromTop_63 rfl rfl ?_
              refine q_getr C (b := 16) 0 rfl (by decide) rfl in_X2 (by decide) fl_X2_9 rfl dX2_sinkFromTop_64 ?_
              refine q_iload_n C 3 dX2_sinkFromTop_67 rfl rfl ?_
              refine q_aload_n C 0 dX2_sinkFromTop_68 rfl rfl ?_
              refine q_getr C (b := 16) 0 rfl (by decide) rfl in_X2 (by decide) fl_X2_9 rfl dX2_sinkFromTop_69 ?_
              refine q_iload C dX2_sinkFromTop_72 rfl ?_
              refine q_lald C (b := 17) (n := 1024) 0 1099511627775 rfl (by decide) (by decide) (by omega) (fun _ => rfl) dX2_sinkFromTop_74 (fun v74 e74 l74 u74 => ?_)
              refine q_last C (b := 17) (n := 1024) rfl (by decide) (by decide) (by omega)  (show 0 ≤ _ ∧ _ ≤ 1099511627775 from (by omega)) dX2_sinkFromTop_75 ?_
              refine q_iload C dX2_sinkFromTop_76 rfl ?_
              refine q_istoreV_n C 3 dX2_sinkFromTop_78 rfl (by decide) (fun v78 e78 => ?_)
              refine q_iconst C dX2_sinkFromTop_79 ?_
              refine q_iload_n C 3 dX2_sinkFromTop_80 rfl rfl ?_
              refine q_imul C dX2_sinkFromTop_81 ?_
              refine q_iconst C dX2_sinkFromTop_82 ?_
              refine q_iadd C dX2_sinkFromTop_83 ?_
              refine q_istoreV C dX2_sinkFromTop_84 (by decide) (fun v84 e84 => ?_)
              refine q_goto C 5 dX2_sinkFromTop_86 (by decide) ?_
              refine q_loc [(0, .ref (ω.1 16)), (1, .long (lI x)), (3, .int (iI v78)), (4, .int (iI v84))] ⟨rfl, rfl, rfl, rfl, trivial⟩ ?_
              have e74 : v74 = g1 17 b := e74
              have e54 : v54 = g1 17 b := e54
              have q := hpS_step (c := b) (by omega) (by omega) (by omega) (by omega) h1 (by omega) (fun i p q r => by rcases (show i = b ∨ i = b + 1 by omega) with rfl | rfl <;> omega)
              rw [← e74] at q
              subst e78
              exact ih _ v84 _ (by omega) (by omega) ⟨by rw [qUp_u]; exact q.1, fun hz => by rw [qUp_u]; exact (q.2.cons _).trans (h2 hz), by rw [qUp_row (by decide)]; exact h3, fun k k1 => by rw [qUp_row k1]; exact h4 k k1⟩
            · refine q_goto C 89 dX2_sinkFromTop_60 (by decide) ?_
              refine q_aload_n C 0 dX2_sinkFromTop_89 rfl rfl ?_
              refine q_getr C (b := 16) 0 rfl (by decide) rfl in_X2 (by decide) fl_X2_9 rfl dX2_sinkFromTop_90 ?_
              refine q_iload_n C 3 dX2_sinkFromTop_93 rfl rfl ?_
              refine q_lload_n C 1 dX2_sinkFromTop_94 rfl rfl ?_
              refine q_last C (b := 17) (n := 1024) rfl (by decide) (by decide) (by omega)  (show 0 ≤ _ ∧ _ ≤ 1099511627775 from (by omega)) dX2_sinkFromTop_95 ?_
              refine q_retV C dX2_sinkFromTop_96 (by decide) ⟨?_, fun hz => ?_, by rw [qUp_row (by decide)]; exact h3, fun k k1 => by rw [qUp_row k1]; exact h4 k k1⟩
              · rw [qUp_u]
                exact hpS_end h1 (fun i p q r => by rcases (show i = b ∨ i = b + 1 by omega) with rfl | rfl <;> omega) ha.1
              · rw [qUp_u]
                exact h2 hz
          · refine q_iinc C dX2_sinkFromTop_45 rfl (by decide) (fun v45 e45 => ?_)
            refine q_aload_n C 0 dX2_sinkFromTop_48 rfl rfl ?_
            refine q_getr C (b := 16) 0 rfl (by decide) rfl in_X2 (by decide) fl_X2_9 rfl dX2_sinkFromTop_49 ?_
            refine q_iload C dX2_sinkFromTop_52 rfl ?_
            refine q_lald C (b := 17) (n := 1024) 0 1099511627775 rfl (by decide) (by decide) (by omega) (fun _ => rfl) dX2_sinkFromTop_54 (fun v54 e54 l54 u54 => ?_)
            refine q_lload_n C 1 dX2_sinkFromTop_55 rfl rfl ?_
            refine q_lcmpN C dX2_sinkFromTop_56 (by omega) (by omega) (fun v56 h56 => ?_)
            refine q_iflt C 63 dX2_sinkFromTop_57 (by decide) (by omega) (fun c57 => ?_) (fun c57 => ?_)
            · refine q_aload_n C 0 dX2_sinkFromTop_63 rfl rfl ?_
              refine q_getr C (b := 16) 0 rfl (by decide) rfl in_X2 (by decide) fl_X2_9 rfl dX2_sinkFromTop_64 ?_
              refine q_iload_n C 3 dX2_sinkFromTop_67 rfl rfl ?_
              refine q_aload_n C 0 dX2_sinkFromTop_68 rfl rfl ?_
              refine q_getr C (b := 16) 0 rfl (by decide) rfl in_X2 (by decide) fl_X2_9 rfl dX2_sinkFromTop_69 ?_
              refine q_iload C dX2_sinkFromTop_72 rfl ?_
              refine q_lald C (b := 17) (n := 1024) 0 1099511627775 rfl (by decide) (by decide) (by omega) (fun _ => rfl) dX2_sinkFromTop_74 (fun v74 e74 l74 u74 => ?_)
              refine q_last C (b := 17) (n := 1024) rfl (by decide) (by decide) (by omega)  (show 0 ≤ _ ∧ _ ≤ 1099511627775 from (by omega)) dX2_sinkFromTop_75 ?_
              refine q_iload C dX2_sinkFromTop_76 rfl ?_
              refine q_istoreV_n C 3 dX2_sinkFromTop_78 rfl (by decide) (fun v78 e78 => ?_)
              refine q_iconst C dX2_sinkFromTop_79 ?_
              refine q_iload_n C 3 dX2_sinkFromTop_80 rfl rfl ?_
              refine q_imul C dX2_sinkFromTop_81 ?_
              refine q_iconst C dX2_sinkFromTop_82 ?_
              refine q_iadd C dX2_sinkFromTop_83 ?_
              refine q_istoreV C dX2_sinkFromTop_84 (by decide) (fun v84 e84 => ?_)
              refine q_goto C 5 dX2_sinkFromTop_86 (by decide) ?_
              subst e45
              refine q_loc [(0, .ref (ω.1 16)), (1, .long (lI x)), (3, .int (iI v78)), (4, .int (iI v84))] ⟨rfl, rfl, rfl, rfl, trivial⟩ ?_
              have e74 : v74 = g1 17 (b + 1) := e74
              have e54 : v54 = g1 17 (b + 1) := e54
              have q := hpS_step (c := (b + 1)) (by omega) (by omega) (by omega) (by omega) h1 (by omega) (fun i p q r => by rcases (show i = b ∨ i = b + 1 by omega) with rfl | rfl <;> omega)
              rw [← e74] at q
              subst e78
              exact ih _ v84 _ (by omega) (by omega) ⟨by rw [qUp_u]; exact q.1, fun hz => by rw [qUp_u]; exact (q.2.cons _).trans (h2 hz), by rw [qUp_row (by decide)]; exact h3, fun k k1 => by rw [qUp_row k1]; exact h4 k k1⟩
            · refine q_goto C 89 dX2_sinkFromTop_60 (by decide) ?_
              refine q_aload_n C 0 dX2_sinkFromTop_89 rfl rfl ?_
              refine q_getr C (b := 16) 0 rfl (by decide) rfl in_X2 (by decide) fl_X2_9 rfl dX2_sinkFromTop_90 ?_
              refine q_iload_n C 3 dX2_sinkFromTop_93 rfl rfl ?_
              refine q_lload_n C 1 dX2_sinkFromTop_94 rfl rfl ?_
              refine q_last C (b := 17) (n := 1024) rfl (by decide) (by decide) (by omega)  (show 0 ≤ _ ∧ _ ≤ 1099511627775 from (by omega)) dX2_sinkFromTop_95 ?_
              subst e45
              refine q_retV C dX2_sinkFromTop_96 (by decide) ⟨?_, fun hz => ?_, by rw [qUp_row (by decide)]; exact h3, fun k k1 => by rw [qUp_row k1]; exact h4 k k1⟩
              · rw [qUp_u]
                exact hpS_end h1 (fun i p q r => by rcases (show i = b ∨ i = b + 1 by omega) with rfl | rfl <;> omega) ha.1
              · rw [qUp_u]
                exact h2 hz
  refine q_loc [(0, .ref (ω.1 16)), (1, .long (lI x)), (3, .int (iI v1)), (4, .int (iI v3))] ⟨rfl, rfl, rfl, rfl, trivial⟩ ?_
  exact loop ((1025 - v1).toNat + 1) v1 v3 g (by omega) (by omega) ⟨⟨fun i p q r => by subst e1; rw [uI_n r, uI_n (by omega)]; exact ho i p q r, fun p => by omega⟩, fun hz => by subst e1; exact hpL_R (by omega) (by omega), rfl, fun _ _ => rfl⟩
set_option maxRecDepth 20000 in
theorem KX2_takeFirst (g : qHp) (hsz : 0 < g 16 1) (ho : hpO (g 17) (g 16 1)) : qC yX2_takeFirst (.code yX2_takeFirst cX2_takeFirst 3 (some .long)) 1 0 (fun ad => [.ref (ad 16)]) g (qPl (fun (r : Int) (g' : qHp) => r = g 17 0 ∧ hpO (g' 17) (g 16 1 - 1) ∧ (r :: hpL (g' 17) (g 16 1 - 1).toNat).Perm (hpL (g 17) (g 16 1).toNat) ∧ g' 16 1 = g 16 1 - 1 ∧ hpK g g')) qNo := by
  refine q_meth (by decide +kernel) rfl (fun _ => (Nat.le_of_ble_eq_true rfl)) (fun X ω C => ?_)
  refine q_nm (fun hn => ?_)
  have r16_1 : 0 ≤ g 16 1 ∧ g 16 1 ≤ 1024 := hn 16 1
  refine q_loc [(0, .ref (ω.1 16))] ⟨rfl, trivial⟩ ?_
  refine q_aload_n C 0 dX2_takeFirst_0 rfl rfl ?_
  refine q_geti C (b := 16) 1 1 0 1024 rfl (by decide) rfl in_X2 (by decide) fl_X2_13 rfl rfl rfl dX2_takeFirst_1 (fun v1 e1 l1 u1 => ?_)
  refine q_ifne C 9 dX2_takeFirst_4 (by decide) (by omega) (fun c4 => ?_) (fun c4 => ?_)
  · refine q_aload_n C 0 dX2_takeFirst_9 rfl rfl ?_
    refine q_getr C (b := 16) 0 rfl (by decide) rfl in_X2 (by decide) fl_X2_9 rfl dX2_takeFirst_10 ?_
    refine q_iconst C dX2_takeFirst_13 ?_
    refine q_lald C (b := 17) (n := 1024) 0 1099511627775 rfl (by decide) (by decide) (by omega) (fun _ => rfl) dX2_takeFirst_14 (fun v14 e14 l14 u14 => ?_)
    refine q_lstore_n C 1 dX2_takeFirst_15 rfl (by decide) ?_
    refine q_aload_n C 0 dX2_takeFirst_16 rfl rfl ?_
    refine q_dup C dX2_takeFirst_17 rfl ?_
    refine q_geti C (b := 16) 1 1 0 1024 rfl (by decide) rfl in_X2 (by decide) fl_X2_13 rfl rfl rfl dX2_takeFirst_18 (fun v18 e18 l18 u18 => ?_)
    refine q_iconst C dX2_takeFirst_21 ?_
    refine q_isub C dX2_takeFirst_22 ?_
    refine q_puti C (b := 16) 1 1 0 1024 _ rfl (by decide) rfl in_X2 tyX2_ok nmX2 (by decide) fl_X2_13 rfl (by decide +kernel) rfl rfl rfl rfl (by omega) dX2_takeFirst_23 ?_
    refine q_aload_n C 0 dX2_takeFirst_26 rfl rfl ?_
    refine q_aload_n C 0 dX2_takeFirst_27 rfl rfl ?_
    refine q_getr C (b := 16) 0 rfl (by decide) rfl in_X2 (by decide) fl_X2_9 rfl dX2_takeFirst_28 ?_
    refine q_aload_n C 0 dX2_takeFirst_31 rfl rfl ?_
    refine q_geti C (b := 16) 1 1 0 1024 rfl (by decide) rfl in_X2 (by decide) fl_X2_13 rfl rfl rfl dX2_takeFirst_32 (fun v32 e32 l32 u32 => ?_)
    have q32 : v32 = g 16 1 - 1 := by rw [e32, qUp_s, e18]
    refine q_lald C (b := 17) (n := 1024) 0 1099511627775 rfl (by decide) (by decide) (by omega) (fun _ => rfl) dX2_takeFirst_35 (fun v35 e35 l35 u35 => ?_)
    have q35 : v35 = g 17 (g 16 1 - 1) := by rw [e35, qUp_k (by decide), q32]
    refine q_Vw0 C (KX2_sinkFromTop _ _ (by omega) (by omega) (fun i p q r => by rw [qUp_row (by decide)]; rw [qUp_s] at q; exact ho i p (by omega))) mX2_sinkFromTop ml_X2_17 dX2_takeFirst_36 (by decide) (by decide) rfl rfl rfl (Nat.le_of_ble_eq_true rfl) rfl (by decide) rfl rfl (fun g36 h36 => ?_)
    refine q_lload_n C 1 dX2_takeFirst_39 rfl rfl ?_
    obtain ⟨z1, z2, z3, z4⟩ := h36
    rw [qUp_s, qUp_k (by decide), qUp_row (by decide)] at z2
    rw [qUp_s] at z1
    subst e18
    refine q_lretL C dX2_takeFirst_40 (by omega) (by decide) ⟨e14, z1, ?_, ?_, fun k k1 k2 => ?_, fun j hj => ?_⟩
    · rw [e14]
      by_cases hz : 0 < g 16 1 - 1
      · refine (z2 hz).trans ?_
        have hp := hpL_push (f := g 17) (n := g 16 1 - 1) (by omega)
        rw [Int.sub_add_cancel] at hp
        rw [q35, hp]
      · have h1 : g 16 1 = 1 := by omega
        rw [h1]
        exact List.Perm.refl _
    · rw [z3, qUp_s]
    · rw [z4 k k2, qUp_row k1]
    · rw [z3, qUp_j hj]
  · refine q_lconst0 C dX2_takeFirst_7 ?_
    exfalso; omega
end
section
/-! Planner: a begun plan in one long -/
theorem qb_l (n : Nat) : lI (n : Int) = lN n := Int64.ofInt_eq_ofNat
theorem qb_i (n : Nat) : iI (n : Int) = nI n := Int32.ofInt_eq_ofNat
theorem qb_tb (n : Nat) : (lN n).toBitVec = BitVec.ofNat 64 n := rfl
theorem qb_inj {a b : Int64} (h : a.toBitVec = b.toBitVec) : a = b := Int64.toBitVec_inj.mp h
theorem qb_c : ∀ k, k < 64 → ((nI k).toInt64 &&& 63) = lN k := by decide +kernel
theorem qb_sm : ∀ k, k < 64 → (BitVec.ofNat 64 k).smod 64 = BitVec.ofNat 64 k := by decide +kernel
theorem qb_shlN (n : Nat) {k : Nat} (hk : k < 64) : lN n <<< ((nI k).toInt64 &&& 63) = lN (n * 2 ^ k) := by
  rw [qb_c k hk]
  apply qb_inj
  rw [Int64.toBitVec_shiftLeft, qb_tb, qb_tb, qb_tb, qb_sm k hk]
  apply BitVec.eq_of_toNat_eq
  rw [BitVec.shiftLeft_eq', BitVec.toNat_shiftLeft, BitVec.toNat_ofNat, BitVec.toNat_ofNat, BitVec.toNat_ofNat, Nat.mod_eq_of_lt (show k < 2 ^ 64 by omega), Nat.shiftLeft_eq, Nat.mul_mod, Nat.mod_mod, ← Nat.mul_mod]
theorem qb_shl {a : Int} (h : 0 ≤ a) {k : Nat} {c : Int} (hk : k < 64) (hc : ((2 ^ k : Nat) : Int) = c) : lI a <<< ((iI (k : Int)).toInt64 &&& 63) = lI (a * c) := by
  obtain ⟨n, rfl⟩ : ∃ n : Nat, a = n := ⟨a.toNat, by omega⟩
  rw [qb_l, qb_i, qb_shlN n hk, ← qb_l, ← hc]
  rw [Int.natCast_mul]
theorem qb_shr {a : Int} (h : 0 ≤ a) (h2 : a < 9223372036854775808) {k : Nat} {c : Int} (hk : k < 64) (hc : ((2 ^ k : Nat) : Int) = c) : lI a >>> ((iI (k : Int)).toInt64 &&& 63) = lI (a / c) := by
  have hc0 : 0 < c := by rw [← hc]; exact Int.natCast_pos.mpr (Nat.two_pow_pos k)
  have hp : 0 ≤ a / c := Int.ediv_nonneg h (by omega)
  have hl : a / c ≤ a := Int.ediv_le_self _ h
  apply Int64.toInt_inj.mp
  rw [qb_i, qb_c k hk]
  show ((lI a).toBitVec.sshiftRight ((lN k).toBitVec.smod 64).toNat).toInt = _
  have e : ((lN k).toBitVec.smod 64).toNat = k := by
    rw [qb_tb, qb_sm k hk, BitVec.toNat_ofNat, Nat.mod_eq_of_lt (by omega)]
  rw [e, BitVec.toInt_sshiftRight]
  show (lI a).toInt >>> k = _
  rw [lI_t (by omega), lI_t (by omega), Int.shiftRight_eq_div_pow]
  rw [hc]
theorem qb_orN {a b : Nat} (ha : a < 2 ^ 64) (hb : b < 2 ^ 64) : lN a ||| lN b = lN (a ||| b) := by
  apply qb_inj
  rw [Int64.toBitVec_or, qb_tb, qb_tb, qb_tb]
  apply BitVec.eq_of_toNat_eq
  rw [BitVec.toNat_or, BitVec.toNat_ofNat, BitVec.toNat_ofNat, BitVec.toNat_ofNat, Nat.mod_eq_of_lt ha, Nat.mod_eq_of_lt hb, Nat.mod_eq_of_lt (Nat.or_lt_two_pow ha hb)]
/-- an or of a multiple of c = 2 ^ k and a number below c is a sum -/
theorem qb_or {a b : Int} (k : Nat) (c : Int) (hc : ((2 ^ k : Nat) : Int) = c) (ha : 0 ≤ a) (ha2 : a < 4611686018427387904) (hm : a % c = 0) (hb : 0 ≤ b) (hb2 : b < c) (hc2 : c ≤ 4611686018427387904) : lI a ||| lI b = lI (a + b) := by
  obtain ⟨n, rfl⟩ : ∃ n : Nat, a = n := ⟨a.toNat, by omega⟩
  obtain ⟨m, rfl⟩ : ∃ m : Nat, b = m := ⟨b.toNat, by omega⟩
  rw [qb_l, qb_l, qb_orN (by omega) (by omega)]
  have hm2 : n % 2 ^ k = 0 := by
    rw [← hc] at hm
    have : ((n % 2 ^ k : Nat) : Int) = 0 := by rw [Int.natCast_emod]; exact hm
    omega
  have hb3 : m < 2 ^ k := by rw [← hc] at hb2; omega
  have e : 2 ^ k * (n / 2 ^ k) = n := Nat.mul_div_cancel' (Nat.dvd_of_mod_eq_zero hm2)
  have h := Nat.two_pow_add_eq_or_of_lt hb3 (n / 2 ^ k)
  rw [e] at h
  rw [← h, ← qb_l, Int.natCast_add]
theorem qb_and {B m : Int} (k : Nat) (c : Int) (hc : ((2 ^ k : Nat) : Int) = c) (hk : k ≤ 31) (hm : (iI m).toBitVec.toNat = 2 ^ k - 1) (hB : 0 ≤ B) : iI B &&& iI m = iI (B % c) := by
  obtain ⟨n, rfl⟩ : ∃ n : Nat, B = n := ⟨B.toNat, by omega⟩
  rw [pk_and (iI (n : Int)) k hm, ← hc, ← Int.natCast_emod, qb_i, qb_i]
  congr 1
  show (BitVec.ofNat 32 n).toNat % 2 ^ k = n % 2 ^ k
  rw [BitVec.toNat_ofNat]
  exact Nat.mod_mod_of_dvd n (Nat.pow_dvd_pow 2 (by omega))
theorem qb_ishr {B : Int} (k : Nat) (c : Int) (hc : ((2 ^ k : Nat) : Int) = c) (hs : ((iI (k : Int) &&& 31).toBitVec.smod 32).toNat = k) (hB : 0 ≤ B) (hB2 : B < 2147483648) : iI B >>> (iI (k : Int) &&& 31) = iI (B / c) := by
  obtain ⟨n, rfl⟩ : ∃ n : Nat, B = n := ⟨B.toNat, by omega⟩
  rw [qb_i n, pk_shrN (by omega) _ k hs, ← hc, ← Int.natCast_ediv, qb_i]
def bSh (i : Int) : Int := if i = 0 then 16777216 else if i = 1 then 131072 else if i = 2 then 1024 else 8
def bMv (B i : Int) : Int := B / bSh i % 128
set_option maxRecDepth 20000 in
theorem KX3_begunWith (g : qHp) (n : Int) (hn : -2147483648 ≤ n ∧ n < 2147483648) (hn2 : 0 ≤ n ∧ n ≤ 511) : qC yX3_begunWith (.code yX3_begunWith cX3_begunWith 1 (some .long)) 0 0 (fun ad => [.int (iI n)]) g (qPl (fun (r : Int) (g' : qHp) => (r = n * 2147483648) ∧ g' = g)) qNo := by
  refine q_meth (by decide +kernel) rfl (fun _ => (Nat.le_of_ble_eq_true rfl)) (fun X ω C => ?_)
  refine q_loc [(0, .int (iI n))] ⟨rfl, trivial⟩ ?_
  refine q_iload_n C 0 dX3_begunWith_0 rfl rfl ?_
  refine q_i2l C dX3_begunWith_1 (by omega) ?_
  refine q_bipush C dX3_begunWith_2 (by decide +kernel) ?_
  refine q_lshl C dX3_begunWith_4 _ (qb_shl (k := 31) (c := 2147483648) (by omega) (by decide) (by decide)) ?_
  exact q_lretL C dX3_begunWith_5 (by omega) (by decide) (⟨rfl, rfl⟩)
set_option maxRecDepth 20000 in
theorem KX3_needOf (g : qHp) (B : Int) (hB : -9223372036854775808 ≤ B ∧ B < 9223372036854775808) (hB2 : 0 ≤ B ∧ B ≤ 1099511627775) : qC yX3_needOf (.code yX3_needOf cX3_needOf 2 (some .int)) 0 0 (fun ad => [.long (lI B)]) g (qPi (fun (r : Int) (g' : qHp) => (r = B / 2147483648) ∧ g' = g)) qNo := by
  refine q_meth (by decide +kernel) rfl (fun _ => (Nat.le_of_ble_eq_true rfl)) (fun X ω C => ?_)
  refine q_loc [(0, .long (lI B))] ⟨rfl, trivial⟩ ?_
  refine q_lload_n C 0 dX3_needOf_0 rfl rfl ?_
  refine q_bipush C dX3_needOf_1 (by decide +kernel) ?_
  refine q_lshr C dX3_needOf_3 _ (qb_shr (k := 31) (c := 2147483648) (by omega) (by omega) (by decide) (by decide)) ?_
  refine q_l2i C dX3_needOf_4 ?_
  exact q_iretI C dX3_needOf_5 (by omega) (by decide) (⟨by omega, rfl⟩)
set_option maxRecDepth 20000 in
theorem KX3_lengthOf (g : qHp) (B : Int) (hB : -9223372036854775808 ≤ B ∧ B < 9223372036854775808) (hB2 : 0 ≤ B ∧ B ≤ 1099511627775) : qC yX3_lengthOf (.code yX3_lengthOf cX3_lengthOf 2 (some .int)) 0 0 (fun ad => [.long (lI B)]) g (qPi (fun (r : Int) (g' : qHp) => (r = B % 8) ∧ g' = g)) qNo := by
  refine q_meth (by decide +kernel) rfl (fun _ => (Nat.le_of_ble_eq_true rfl)) (fun X ω C => ?_)
  refine q_loc [(0, .long (lI B))] ⟨rfl, trivial⟩ ?_
  refine q_lload_n C 0 dX3_lengthOf_0 rfl rfl ?_
  refine q_l2i C dX3_lengthOf_1 ?_
  refine q_bipush C dX3_lengthOf_2 (by decide +kernel) ?_
  refine q_iand C dX3_lengthOf_4 _ (qb_and 3 8 (by decide) (by decide) (by decide +kernel) (by omega)) ?_
  exact q_iretI C dX3_lengthOf_5 (by omega) (by decide) (⟨by omega, rfl⟩)
set_option maxRecDepth 20000 in
theorem KX3_shiftOf (g : qHp) (i : Int) (hi : -2147483648 ≤ i ∧ i < 2147483648) (hi2 : 0 ≤ i ∧ i ≤ 3) : qC yX3_shiftOf (.code yX3_shiftOf cX3_shiftOf 1 (some .int)) 0 0 (fun ad => [.int (iI i)]) g (qPi (fun (r : Int) (g' : qHp) => (r = 3 + (3 - i) * 7) ∧ g' = g)) qNo := by
  refine q_meth (by decide +kernel) rfl (fun _ => (Nat.le_of_ble_eq_true rfl)) (fun X ω C => ?_)
  refine q_loc [(0, .int (iI i))] ⟨rfl, trivial⟩ ?_
  refine q_iconst C dX3_shiftOf_0 ?_
  refine q_iconst C dX3_shiftOf_1 ?_
  refine q_iload_n C 0 dX3_shiftOf_2 rfl rfl ?_
  refine q_isub C dX3_shiftOf_3 ?_
  refine q_bipush C dX3_shiftOf_4 (by decide +kernel) ?_
  refine q_imul C dX3_shiftOf_6 ?_
  refine q_iadd C dX3_shiftOf_7 ?_
  exact q_iretI C dX3_shiftOf_8 (by omega) (by decide) (⟨by omega, rfl⟩)
set_option maxRecDepth 20000 in
theorem KX3_moveOf (g : qHp) (B : Int) (hB : -9223372036854775808 ≤ B ∧ B < 9223372036854775808) (i : Int) (hi : -2147483648 ≤ i ∧ i < 2147483648) (hB2 : 0 ≤ B ∧ B ≤ 1099511627775) (hi2 : 0 ≤ i ∧ i ≤ 3) : qC yX3_moveOf (.code yX3_moveOf cX3_moveOf 3 (some .int)) 1 0 (fun ad => [.long (lI B), .int (iI i)]) g (qPi (fun (r : Int) (g' : qHp) => (r = bMv B i) ∧ g' = g)) qNo := by
  refine q_meth (by decide +kernel) rfl (fun _ => (Nat.le_of_ble_eq_true rfl)) (fun X ω C => ?_)
  refine q_loc [(0, .long (lI B)), (2, .int (iI i))] ⟨rfl, rfl, trivial⟩ ?_
  refine q_lload_n C 0 dX3_moveOf_0 rfl rfl ?_
  refine q_iload_n C 2 dX3_moveOf_1 rfl rfl ?_
  refine q_Sf0 C (KX3_shiftOf _ _ (by omega) (by omega)) mX3_shiftOf ml_X3_106 dX3_moveOf_2 (by decide) (by decide) rfl rfl rfl (Nat.le_of_ble_eq_true rfl) (fun v2 l2 u2 h2 => ?_)
  rcases (show i = 0 ∨ i = 1 ∨ i = 2 ∨ i = 3 by omega) with rfl | rfl | rfl | rfl
  · subst h2
    refine q_lshr C dX3_moveOf_5 _ (qb_shr (k := 24) (c := 16777216) (by omega) (by omega) (by decide) (by decide)) ?_
    refine q_l2i C dX3_moveOf_6 ?_
    refine q_bipush C dX3_moveOf_7 (by decide +kernel) ?_
    refine q_iand C dX3_moveOf_9 _ (qb_and 7 128 (by decide) (by decide) (by decide +kernel) (by omega)) ?_
    exact q_iretI C dX3_moveOf_10 (by omega) (by decide) ⟨rfl, rfl⟩
  · subst h2
    refine q_lshr C dX3_moveOf_5 _ (qb_shr (k := 17) (c := 131072) (by omega) (by omega) (by decide) (by decide)) ?_
    refine q_l2i C dX3_moveOf_6 ?_
    refine q_bipush C dX3_moveOf_7 (by decide +kernel) ?_
    refine q_iand C dX3_moveOf_9 _ (qb_and 7 128 (by decide) (by decide) (by decide +kernel) (by omega)) ?_
    exact q_iretI C dX3_moveOf_10 (by omega) (by decide) ⟨rfl, rfl⟩
  · subst h2
    refine q_lshr C dX3_moveOf_5 _ (qb_shr (k := 10) (c := 1024) (by omega) (by omega) (by decide) (by decide)) ?_
    refine q_l2i C dX3_moveOf_6 ?_
    refine q_bipush C dX3_moveOf_7 (by decide +kernel) ?_
    refine q_iand C dX3_moveOf_9 _ (qb_and 7 128 (by decide) (by decide) (by decide +kernel) (by omega)) ?_
    exact q_iretI C dX3_moveOf_10 (by omega) (by decide) ⟨rfl, rfl⟩
  · subst h2
    refine q_lshr C dX3_moveOf_5 _ (qb_shr (k := 3) (c := 8) (by omega) (by omega) (by decide) (by decide)) ?_
    refine q_l2i C dX3_moveOf_6 ?_
    refine q_bipush C dX3_moveOf_7 (by decide +kernel) ?_
    refine q_iand C dX3_moveOf_9 _ (qb_and 7 128 (by decide) (by decide) (by decide +kernel) (by omega)) ?_
    exact q_iretI C dX3_moveOf_10 (by omega) (by decide) ⟨rfl, rfl⟩
set_option maxRecDepth 20000 in
theorem KX3_extraNeed (g : qHp) (f : Int) (hf : -2147483648 ≤ f ∧ f < 2147483648) (t : Int) (ht : -2147483648 ≤ t ∧ t < 2147483648) (h : Int) (hh : -2147483648 ≤ h ∧ h < 2147483648)  : qC yX3_extraNeed (.code yX3_extraNeed cX3_extraNeed 3 (some .int)) 0 0 (fun ad => [.int (iI f), .int (iI t), .int (iI h)]) g (qPi (fun (r : Int) (g' : qHp) => ((f = h ∧ r = 0) ∨ (f ≠ h ∧ t = h ∧ r = 2) ∨ (f ≠ h ∧ t ≠ h ∧ r = 1)) ∧ g' = g)) qNo := by
  refine q_meth (by decide +kernel) rfl (fun _ => (Nat.le_of_ble_eq_true rfl)) (fun X ω C => ?_)
  refine q_loc [(0, .int (iI f)), (1, .int (iI t)), (2, .int (iI h))] ⟨rfl, rfl, rfl, trivial⟩ ?_
  refine q_iload_n C 0 dX3_extraNeed_0 rfl rfl ?_
  refine q_iload_n C 2 dX3_extraNeed_1 rfl rfl ?_
  refine q_icmp_ne C 7 dX3_extraNeed_2 (by decide) (by omega) (by omega) (fun c2 => ?_) (fun c2 => ?_)
  · refine q_iload_n C 1 dX3_extraNeed_7 rfl rfl ?_
    refine q_iload_n C 2 dX3_extraNeed_8 rfl rfl ?_
    refine q_icmp_ne C 16 dX3_extraNeed_9 (by decide) (by omega) (by omega) (fun c9 => ?_) (fun c9 => ?_)
    · refine q_iconst C dX3_extraNeed_16 ?_
      exact q_iretI C dX3_extraNeed_17 (by omega) (by decide) (⟨by omega, rfl⟩)
    · refine q_iconst C dX3_extraNeed_12 ?_
      refine q_goto C 17 dX3_extraNeed_13 (by decide) ?_
      exact q_iretI C dX3_extraNeed_17 (by omega) (by decide) (⟨by omega, rfl⟩)
  · refine q_iconst C dX3_extraNeed_5 ?_
    exact q_iretI C dX3_extraNeed_6 (by omega) (by decide) (⟨by omega, rfl⟩)
set_option maxRecDepth 20000 in
theorem KX3_goneOn (g : qHp) (B : Int) (hB : -9223372036854775808 ≤ B ∧ B < 9223372036854775808) (nd : Int) (hnd : -2147483648 ≤ nd ∧ nd < 2147483648) (bx : Int) (hbx : -2147483648 ≤ bx ∧ bx < 2147483648) (sk : Int) (hsk : -2147483648 ≤ sk ∧ sk < 2147483648) (hB2 : 0 ≤ B ∧ B ≤ 1099511627775) (hnd2 : 0 ≤ nd ∧ nd ≤ 5) (hbx2 : 0 ≤ bx ∧ bx ≤ 19) (hsk2 : 0 ≤ sk ∧ sk ≤ 3) (hlen : B % 8 ≤ 3) (hlow : (B % 2147483648 - B % 8) % (bSh (B % 8) * 128) = 0) : qC yX3_goneOn (.code yX3_goneOn cX3_goneOn 10 (some .long)) 1 0 (fun ad => [.long (lI B), .int (iI nd), .int (iI bx), .int (iI sk)]) g (qPl (fun (r : Int) (g' : qHp) => (r = nd * 2147483648 + (B % 2147483648 - B % 8) + (bx * 4 + sk) * bSh (B % 8) + (B % 8 + 1)) ∧ g' = g)) qNo := by
  refine q_meth (by decide +kernel) rfl (fun _ => (Nat.le_of_ble_eq_true rfl)) (fun X ω C => ?_)
  refine q_loc [(0, .long (lI B)), (2, .int (iI nd)), (3, .int (iI bx)), (4, .int (iI sk))] ⟨rfl, rfl, rfl, rfl, trivial⟩ ?_
  refine q_lload_n C 0 dX3_goneOn_0 rfl rfl ?_
  refine q_Sf0 C (KX3_lengthOf _ _ (by omega) (by omega)) mX3_lengthOf ml_X3_54 dX3_goneOn_1 (by decide) (by decide) rfl rfl rfl (Nat.le_of_ble_eq_true rfl) (fun v1 l1 u1 h1 => ?_)
  refine q_istoreV C dX3_goneOn_4 (by decide) (fun v4 e4 => ?_)
  refine q_iload_n C 3 dX3_goneOn_6 rfl rfl ?_
  refine q_i2l C dX3_goneOn_7 (by omega) ?_
  refine q_iconst C dX3_goneOn_8 ?_
  refine q_lshl C dX3_goneOn_9 _ (qb_shl (k := 2) (c := 4) (by omega) (by decide) (by decide)) ?_
  refine q_iload C dX3_goneOn_10 rfl ?_
  refine q_i2l C dX3_goneOn_12 (by omega) ?_
  refine q_lor C dX3_goneOn_13 _ (qb_or 2 4 (by decide) (by omega) (by omega) (by omega) (by omega) (by omega) (by decide)) ?_
  refine q_lstore C dX3_goneOn_14 (by decide) ?_
  refine q_lload_n C 0 dX3_goneOn_16 rfl rfl ?_
  refine q_lload_n C 0 dX3_goneOn_17 rfl rfl ?_
  refine q_Sf0 C (KX3_needOf _ _ (by omega) (by omega)) mX3_needOf ml_X3_50 dX3_goneOn_18 (by decide) (by decide) rfl rfl rfl (Nat.le_of_ble_eq_true rfl) (fun v18 l18 u18 h18 => ?_)
  refine q_Sl0 C (KX3_begunWith _ _ (by omega) (by omega)) mX3_begunWith ml_X3_34 dX3_goneOn_21 (by decide) (by decide) rfl rfl rfl (Nat.le_of_ble_eq_true rfl) (fun v21 l21 u21 h21 => ?_)
  refine q_lsub C dX3_goneOn_24 ?_
  refine q_iload C dX3_goneOn_25 rfl ?_
  refine q_i2l C dX3_goneOn_27 (by omega) ?_
  refine q_lsub C dX3_goneOn_28 ?_
  refine q_lstore C dX3_goneOn_29 (by decide) ?_
  refine q_iload_n C 2 dX3_goneOn_31 rfl rfl ?_
  refine q_Sl0 C (KX3_begunWith _ _ (by omega) (by omega)) mX3_begunWith ml_X3_34 dX3_goneOn_32 (by decide) (by decide) rfl rfl rfl (Nat.le_of_ble_eq_true rfl) (fun v32 l32 u32 h32 => ?_)
  refine q_lload C dX3_goneOn_35 rfl ?_
  have q8 : v21 = B / 2147483648 * 2147483648 := by rw [h21, h18]
  have hd : B = 2147483648 * (B / 2147483648) + B % 2147483648 := (Int.mul_ediv_add_emod B 2147483648).symm
  have hml : 0 ≤ B % 2147483648 := Int.emod_nonneg _ (by decide)
  have hm2 : B % 2147483648 < 2147483648 := Int.emod_lt_of_pos _ (by decide)
  have hm8 : (B % 2147483648) % 8 = B % 8 := Int.emod_emod_of_dvd B (by decide)
  have el : B - v21 - v4 = B % 2147483648 - B % 8 := by omega
  rw [el]
  subst e4
  generalize hL : B % 2147483648 - B % 8 = L at *
  have hL0 : 0 ≤ L ∧ L < 2147483648 := by omega
  refine q_lor C dX3_goneOn_37 _ (qb_or 31 2147483648 (by decide) (by omega) (by omega) (by omega) (by omega) (by omega) (by decide)) ?_
  refine q_lload C dX3_goneOn_38 rfl ?_
  refine q_iload C dX3_goneOn_40 rfl ?_
  refine q_Sf0 C (KX3_shiftOf _ _ (by omega) (by omega)) mX3_shiftOf ml_X3_106 dX3_goneOn_42 (by decide) (by decide) rfl rfl rfl (Nat.le_of_ble_eq_true rfl) (fun v42 l42 u42 h42 => ?_)
  generalize hK : B % 8 = K at *
  rcases (show K = 0 ∨ K = 1 ∨ K = 2 ∨ K = 3 by omega) with rfl | rfl | rfl | rfl
  · have hv1 : v4 = 0 := by omega
    have hv42 : v42 = 24 := by omega
    subst hv1
    subst hv42
    have hl3 : L % 2147483648 = 0 := hlow
    refine q_lshl C dX3_goneOn_45 _ (qb_shl (k := 24) (c := 16777216) (by omega) (by decide) (by decide)) ?_
    refine q_lor C dX3_goneOn_46 _ (qb_or 31 2147483648 (by decide) (by omega) (by omega) (by omega) (by omega) (by omega) (by decide)) ?_
    refine q_iload C dX3_goneOn_47 rfl ?_
    refine q_iconst C dX3_goneOn_49 ?_
    refine q_iadd C dX3_goneOn_50 ?_
    refine q_i2l C dX3_goneOn_51 (by omega) ?_
    refine q_lor C dX3_goneOn_52 _ (qb_or 3 8 (by decide) (by omega) (by omega) (by omega) (by omega) (by omega) (by decide)) ?_
    exact q_lretL C dX3_goneOn_53 (by omega) (by decide) ⟨by show _ = nd * 2147483648 + L + (bx * 4 + sk) * 16777216 + (0 + 1); omega, rfl⟩
  · have hv1 : v4 = 1 := by omega
    have hv42 : v42 = 17 := by omega
    subst hv1
    subst hv42
    have hl3 : L % 16777216 = 0 := hlow
    refine q_lshl C dX3_goneOn_45 _ (qb_shl (k := 17) (c := 131072) (by omega) (by decide) (by decide)) ?_
    refine q_lor C dX3_goneOn_46 _ (qb_or 24 16777216 (by decide) (by omega) (by omega) (by omega) (by omega) (by omega) (by decide)) ?_
    refine q_iload C dX3_goneOn_47 rfl ?_
    refine q_iconst C dX3_goneOn_49 ?_
    refine q_iadd C dX3_goneOn_50 ?_
    refine q_i2l C dX3_goneOn_51 (by omega) ?_
    refine q_lor C dX3_goneOn_52 _ (qb_or 3 8 (by decide) (by omega) (by omega) (by omega) (by omega) (by omega) (by decide)) ?_
    exact q_lretL C dX3_goneOn_53 (by omega) (by decide) ⟨by show _ = nd * 2147483648 + L + (bx * 4 + sk) * 131072 + (1 + 1); omega, rfl⟩
  · have hv1 : v4 = 2 := by omega
    have hv42 : v42 = 10 := by omega
    subst hv1
    subst hv42
    have hl3 : L % 131072 = 0 := hlow
    refine q_lshl C dX3_goneOn_45 _ (qb_shl (k := 10) (c := 1024) (by omega) (by decide) (by decide)) ?_
    refine q_lor C dX3_goneOn_46 _ (qb_or 17 131072 (by decide) (by omega) (by omega) (by omega) (by omega) (by omega) (by decide)) ?_
    refine q_iload C dX3_goneOn_47 rfl ?_
    refine q_iconst C dX3_goneOn_49 ?_
    refine q_iadd C dX3_goneOn_50 ?_
    refine q_i2l C dX3_goneOn_51 (by omega) ?_
    refine q_lor C dX3_goneOn_52 _ (qb_or 3 8 (by decide) (by omega) (by omega) (by omega) (by omega) (by omega) (by decide)) ?_
    exact q_lretL C dX3_goneOn_53 (by omega) (by decide) ⟨by show _ = nd * 2147483648 + L + (bx * 4 + sk) * 1024 + (2 + 1); omega, rfl⟩
  · have hv1 : v4 = 3 := by omega
    have hv42 : v42 = 3 := by omega
    subst hv1
    subst hv42
    have hl3 : L % 1024 = 0 := hlow
    refine q_lshl C dX3_goneOn_45 _ (qb_shl (k := 3) (c := 8) (by omega) (by decide) (by decide)) ?_
    refine q_lor C dX3_goneOn_46 _ (qb_or 10 1024 (by decide) (by omega) (by omega) (by omega) (by omega) (by omega) (by decide)) ?_
    refine q_iload C dX3_goneOn_47 rfl ?_
    refine q_iconst C dX3_goneOn_49 ?_
    refine q_iadd C dX3_goneOn_50 ?_
    refine q_i2l C dX3_goneOn_51 (by omega) ?_
    refine q_lor C dX3_goneOn_52 _ (qb_or 3 8 (by decide) (by omega) (by omega) (by omega) (by omega) (by omega) (by decide)) ?_
    exact q_lretL C dX3_goneOn_53 (by omega) (by decide) ⟨by show _ = nd * 2147483648 + L + (bx * 4 + sk) * 8 + (3 + 1); omega, rfl⟩
set_option maxRecDepth 20000 in
theorem KX3_length (g : qHp)  : qC yX3_length (.code yX3_length cX3_length 1 (some .int)) 1 0 (fun ad => [.ref (ad 15)]) g (qPi (fun (r : Int) (g' : qHp) => (r = g 15 3 % 8) ∧ g' = g)) qNo := by
  refine q_meth (by decide +kernel) rfl (fun _ => (Nat.le_of_ble_eq_true rfl)) (fun X ω C => ?_)
  refine q_loc [(0, .ref (ω.1 15))] ⟨rfl, trivial⟩ ?_
  refine q_aload_n C 0 dX3_length_0 rfl rfl ?_
  refine q_getl C (b := 15) 3 3 0 1099511627775 rfl (by decide) rfl in_X3 (by decide) fl_X3_57 rfl rfl rfl dX3_length_1 (fun v1 e1 l1 u1 => ?_)
  refine q_Sf0 C (KX3_lengthOf _ _ (by omega) (by omega)) mX3_lengthOf ml_X3_54 dX3_length_4 (by decide) (by decide) rfl rfl rfl (Nat.le_of_ble_eq_true rfl) (fun v4 l4 u4 h4 => ?_)
  subst e1
  exact q_iretI C dX3_length_7 (by omega) (by decide) (⟨by omega, rfl⟩)
set_option maxRecDepth 20000 in
theorem KX3_boxMoved (g : qHp) (i : Int) (hi : -2147483648 ≤ i ∧ i < 2147483648) (hi2 : 0 ≤ i ∧ i ≤ 3) : qC yX3_boxMoved (.code yX3_boxMoved cX3_boxMoved 2 (some .int)) 2 0 (fun ad => [.ref (ad 15), .int (iI i)]) g (qPi (fun (r : Int) (g' : qHp) => (r = bMv (g 15 3) i / 4 ∧ 0 ≤ r ∧ r < 32) ∧ g' = g)) qNo := by
  refine q_meth (by decide +kernel) rfl (fun _ => (Nat.le_of_ble_eq_true rfl)) (fun X ω C => ?_)
  refine q_loc [(0, .ref (ω.1 15)), (1, .int (iI i))] ⟨rfl, rfl, trivial⟩ ?_
  refine q_aload_n C 0 dX3_boxMoved_0 rfl rfl ?_
  refine q_getl C (b := 15) 3 3 0 1099511627775 rfl (by decide) rfl in_X3 (by decide) fl_X3_57 rfl rfl rfl dX3_boxMoved_1 (fun v1 e1 l1 u1 => ?_)
  refine q_iload_n C 1 dX3_boxMoved_4 rfl rfl ?_
  refine q_Sf0 C (KX3_moveOf _ _ (by omega) _ (by omega) (by omega) (by omega)) mX3_moveOf ml_X3_68 dX3_boxMoved_5 (by decide) (by decide) rfl rfl rfl (Nat.le_of_ble_eq_true rfl) (fun v5 l5 u5 h5 => ?_)
  refine q_iconst C dX3_boxMoved_8 ?_
  have q5 : 0 ≤ v5 ∧ v5 < 128 := by
    rw [h5]
    unfold bMv
    omega
  refine q_ishr C dX3_boxMoved_9 _ (qb_ishr 2 4 (by decide) (by decide +kernel) (by omega) (by omega)) ?_
  subst e1
  exact q_iretI C dX3_boxMoved_10 (by omega) (by decide) ⟨⟨by rw [h5], by omega, by omega⟩, rfl⟩
set_option maxRecDepth 20000 in
theorem KX3_stackReached (g : qHp) (i : Int) (hi : -2147483648 ≤ i ∧ i < 2147483648) (hi2 : 0 ≤ i ∧ i ≤ 3) : qC yX3_stackReached (.code yX3_stackReached cX3_stackReached 2 (some .int)) 2 0 (fun ad => [.ref (ad 15), .int (iI i)]) g (qPi (fun (r : Int) (g' : qHp) => (r = bMv (g 15 3) i % 4 ∧ 0 ≤ r ∧ r < 4) ∧ g' = g)) qNo := by
  refine q_meth (by decide +kernel) rfl (fun _ => (Nat.le_of_ble_eq_true rfl)) (fun X ω C => ?_)
  refine q_loc [(0, .ref (ω.1 15)), (1, .int (iI i))] ⟨rfl, rfl, trivial⟩ ?_
  refine q_aload_n C 0 dX3_stackReached_0 rfl rfl ?_
  refine q_getl C (b := 15) 3 3 0 1099511627775 rfl (by decide) rfl in_X3 (by decide) fl_X3_57 rfl rfl rfl dX3_stackReached_1 (fun v1 e1 l1 u1 => ?_)
  refine q_iload_n C 1 dX3_stackReached_4 rfl rfl ?_
  refine q_Sf0 C (KX3_moveOf _ _ (by omega) _ (by omega) (by omega) (by omega)) mX3_moveOf ml_X3_68 dX3_stackReached_5 (by decide) (by decide) rfl rfl rfl (Nat.le_of_ble_eq_true rfl) (fun v5 l5 u5 h5 => ?_)
  refine q_iconst C dX3_stackReached_8 ?_
  have q5 : 0 ≤ v5 ∧ v5 < 128 := by
    rw [h5]
    unfold bMv
    omega
  refine q_iand C dX3_stackReached_9 _ (qb_and 2 4 (by decide) (by decide) (by decide +kernel) (by omega)) ?_
  subst e1
  exact q_iretI C dX3_stackReached_10 (by omega) (by decide) ⟨⟨by rw [h5], by omega, by omega⟩, rfl⟩
end
section
/-! the planning, over yards as stacks of boxes, the top one first: c stacks, r reaches, w weights, pn pinned, b the box to be dug out -/
abbrev St : Type := Int → List Int
def tlS (p : Int → Int) (s : Int) : Nat → List Int
  | 0 => []
  | n + 1 => p (s * 4 + n) :: tlS p s n
def stOf (h p : Int → Int) : St := fun s => if 0 ≤ s ∧ s < 4 then tlS p s (h s).toNat else []
def okM (c : Int) (r w : Int → Int) (pn : Int → Bool) (st : St) (s t x : Int) : Prop := 0 ≤ s ∧ s < c ∧ 0 ≤ t ∧ t < c ∧ s ≠ t ∧ (st s).head? = some x ∧ pn x = false ∧ ((st t).length : Int) < r t ∧ (∀ y, (st t).head? = some y → w x ≤ w y)
def doM (st : St) (s t x : Int) : St := fun u => if u = s then (st s).tail else if u = t then x :: st t else st u
def stepR (c : Int) (r w : Int → Int) (pn : Int → Bool) (b : Int) (st : St) (m : Int) (st' : St) : Prop := ∃ s t x, m = 4 * x + t ∧ x ≠ b ∧ okM c r w pn st s t x ∧ st' = doM st s t x
def runR (c : Int) (r w : Int → Int) (pn : Int → Bool) (b : Int) : List Int → St → St → Prop
  | [], a, z => a = z
  | m :: L, a, z => ∃ a', stepR c r w pn b a m a' ∧ runR c r w pn b L a' z
def wfS (c : Int) (st : St) : Prop := (∀ s, (st s).Nodup) ∧ (∀ s s' x, x ∈ st s → x ∈ st s' → s = s') ∧ (∀ s x, x ∈ st s → 0 ≤ x ∧ x < 20) ∧ (∀ s, (st s).length ≤ 4) ∧ (∀ s x, x ∈ st s → 0 ≤ s ∧ s < c)
def ixO (b : Int) : List Int → Nat
  | [] => 0
  | x :: l => if x = b then 0 else ixO b l + 1
def ovR (st : St) (b : Int) (n : Nat) : Prop := ∃ s, b ∈ st s ∧ ixO b (st s) = n
section PLAN
variable {c : Int} {r w : Int → Int} {pn : Int → Bool} {b : Int}
theorem hd_cons {l : List Int} {x : Int} (h : l.head? = some x) : ∃ t, l = x :: t := by
  cases l with
  | nil => cases h
  | cons y t =>
    simp at h
    exact ⟨t, by rw [h]⟩
theorem doM_s {st : St} {s t x : Int} : doM st s t x s = (st s).tail := by simp [doM]
theorem doM_t {st : St} {s t x : Int} (h : t ≠ s) : doM st s t x t = x :: st t := by simp [doM, h]
theorem doM_o {st : St} {s t x u : Int} (h1 : u ≠ s) (h2 : u ≠ t) : doM st s t x u = st u := by simp [doM, h1, h2]
theorem wf_do {st : St} {s t x : Int} (hr : ∀ t, r t ≤ 4) (h : wfS c st) (o : okM c r w pn st s t x) : wfS c (doM st s t x) := by
  obtain ⟨n1, n2, n3, n4, n5⟩ := h
  obtain ⟨o1, o2, o3, o4, o5, o6, o7, o8, -⟩ := o
  obtain ⟨l, hl⟩ := hd_cons o6
  have hxs : x ∈ st s := by rw [hl]; exact List.mem_cons_self
  have hxt : x ∉ st t := fun q => o5 (n2 s t x hxs q)
  have hnd := n1 s
  rw [hl] at hnd
  have hxl : x ∉ l := (List.nodup_cons.mp hnd).1
  have mem : ∀ u y, y ∈ doM st s t x u → (u = t ∧ y = x) ∨ (y ∈ st u ∧ y ≠ x) := by
    intro u y hy
    by_cases hu : u = s
    · rw [hu, doM_s, hl] at hy
      refine Or.inr ⟨by rw [hu, hl]; exact List.mem_cons_of_mem _ hy, fun q => hxl (by rw [← q]; exact hy)⟩
    · by_cases ht : u = t
      · rw [ht, doM_t (Ne.symm o5)] at hy
        rcases List.mem_cons.mp hy with q | q
        · exact Or.inl ⟨ht, q⟩
        · exact Or.inr ⟨by rw [ht]; exact q, fun z => hxt (by rw [← z]; exact q)⟩
      · rw [doM_o hu ht] at hy
        exact Or.inr ⟨hy, fun z => hu (n2 u s x (by rw [← z]; exact hy) hxs)⟩
  refine ⟨fun u => ?_, fun u v y h1 h2 => ?_, fun u y h1 => ?_, fun u => ?_, fun u y h1 => ?_⟩
  · by_cases hu : u = s
    · rw [hu, doM_s, hl]
      exact (List.nodup_cons.mp hnd).2
    · by_cases ht : u = t
      · rw [ht, doM_t (Ne.symm o5)]
        exact List.nodup_cons.mpr ⟨hxt, n1 t⟩
      · rw [doM_o hu ht]
        exact n1 u
  · rcases mem u y h1 with ⟨a1, a2⟩ | ⟨a1, a2⟩ <;> rcases mem v y h2 with ⟨b1, b2⟩ | ⟨b1, b2⟩
    · rw [a1, b1]
    · exact absurd a2 b2
    · exact absurd b2 a2
    · exact n2 u v y a1 b1
  · rcases mem u y h1 with ⟨a1, a2⟩ | ⟨a1, a2⟩
    · rw [a2]
      exact n3 s x hxs
    · exact n3 u y a1
  · by_cases hu : u = s
    · rw [hu, doM_s, List.length_tail]
      have := n4 s
      omega
    · by_cases ht : u = t
      · rw [ht, doM_t (Ne.symm o5), List.length_cons]
        have := hr t
        omega
      · rw [doM_o hu ht]
        exact n4 u
  · rcases mem u y h1 with ⟨a1, a2⟩ | ⟨a1, a2⟩
    · rw [a1]
      exact ⟨o3, o4⟩
    · exact n5 u y a1
theorem wf_run (hr : ∀ t, r t ≤ 4) : ∀ {L : List Int} {a z : St}, wfS c a → runR c r w pn b L a z → wfS c z
  | [], a, z, h, e => by
    have e : a = z := e
    rw [← e]
    exact h
  | m :: L, a, z, h, e => by
    obtain ⟨a', ⟨s, t, x, -, -, o, rfl⟩, e2⟩ := e
    exact wf_run hr (wf_do hr h o) e2
theorem ov_u {st : St} {n n' : Nat} (h : wfS c st) (h1 : ovR st b n) (h2 : ovR st b n') : n = n' := by
  obtain ⟨s, a1, a2⟩ := h1
  obtain ⟨s', b1, b2⟩ := h2
  have e := h.2.1 s s' b a1 b1
  subst e
  rw [← a2, ← b2]
/-- how a move changes the number of boxes above b, which stands in stack s0 -/
theorem ov_do {st : St} {s t x s0 : Int} {n : Nat} (hx : x ≠ b) (o : okM c r w pn st s t x) (hb : b ∈ st s0) (hn : ixO b (st s0) = n) : (s = s0 ∧ 0 < n ∧ b ∈ doM st s t x s0 ∧ ixO b (doM st s t x s0) = n - 1) ∨ (s ≠ s0 ∧ t = s0 ∧ b ∈ doM st s t x s0 ∧ ixO b (doM st s t x s0) = n + 1) ∨ (s ≠ s0 ∧ t ≠ s0 ∧ b ∈ doM st s t x s0 ∧ ixO b (doM st s t x s0) = n) := by
  obtain ⟨o1, o2, o3, o4, o5, o6, o7, o8, -⟩ := o
  obtain ⟨l, hl⟩ := hd_cons o6
  by_cases h : s = s0
  · refine Or.inl ⟨h, ?_⟩
    subst h
    rw [hl] at hb hn
    rw [doM_s, hl]
    unfold ixO at hn
    rw [if_neg hx] at hn
    refine ⟨by omega, ?_, by simp only [List.tail_cons]; omega⟩
    rcases List.mem_cons.mp hb with q | q
    · exact absurd q.symm hx
    · exact q
  · by_cases h2 : t = s0
    · refine Or.inr (Or.inl ⟨h, h2, ?_⟩)
      subst h2
      rw [doM_t (Ne.symm h)]
      refine ⟨List.mem_cons_of_mem _ hb, ?_⟩
      unfold ixO
      rw [if_neg hx, hn]
    · refine Or.inr (Or.inr ⟨h, h2, ?_⟩)
      rw [doM_o (Ne.symm h) (Ne.symm h2)]
      exact ⟨hb, hn⟩
theorem ov_run : ∀ {L : List Int} {a z : St} {n : Nat}, runR c r w pn b L a z → ovR a b n → ∃ n' : Nat, ovR z b n' ∧ n ≤ n' + L.length
  | [], a, z, n, e, h => by
    have e : a = z := e
    rw [← e]
    exact ⟨n, h, by simp⟩
  | m :: L, a, z, n, e, h => by
    obtain ⟨a', ⟨s, t, x, -, hx, o, rfl⟩, e2⟩ := e
    obtain ⟨s0, hb, hn⟩ := h
    rcases ov_do hx o hb hn with ⟨-, h0, q1, q2⟩ | ⟨-, -, q1, q2⟩ | ⟨-, -, q1, q2⟩
    · obtain ⟨n', h1, h2⟩ := ov_run e2 ⟨s0, q1, q2⟩
      exact ⟨n', h1, by simp only [List.length_cons]; omega⟩
    · obtain ⟨n', h1, h2⟩ := ov_run e2 ⟨s0, q1, q2⟩
      exact ⟨n', h1, by simp only [List.length_cons]; omega⟩
    · obtain ⟨n', h1, h2⟩ := ov_run e2 ⟨s0, q1, q2⟩
      exact ⟨n', h1, by simp only [List.length_cons]; omega⟩
theorem run_app : ∀ {P R : List Int} {a z : St}, runR c r w pn b (P ++ R) a z ↔ ∃ y, runR c r w pn b P a y ∧ runR c r w pn b R y z
  | [], R, a, z => by
    constructor
    · intro h
      exact ⟨a, rfl, h⟩
    · rintro ⟨y, h1, h2⟩
      have h1 : a = y := h1
      rw [h1]
      exact h2
  | m :: P, R, a, z => by
    constructor
    · rintro ⟨a', h1, h2⟩
      obtain ⟨y, h3, h4⟩ := run_app.mp h2
      exact ⟨y, ⟨a', h1, h3⟩, h4⟩
    · rintro ⟨y, ⟨a', h1, h3⟩, h4⟩
      exact ⟨a', h1, run_app.mpr ⟨y, h3, h4⟩⟩
theorem step_dig {a z : St} {m : Int} (hc : c ≤ 4) (h : wfS c a) (e : stepR c r w pn b a m z) : 0 ≤ m ∧ m < 80 := by
  obtain ⟨s, t, x, rfl, hx, o, rfl⟩ := e
  obtain ⟨o1, o2, o3, o4, o5, o6, -⟩ := o
  obtain ⟨l, hl⟩ := hd_cons o6
  have := h.2.2.1 s x (by rw [hl]; exact List.mem_cons_self)
  omega
theorem step_det {a z z' : St} {m : Int} (hc : c ≤ 4) (h : wfS c a) (e : stepR c r w pn b a m z) (e' : stepR c r w pn b a m z') : z = z' := by
  obtain ⟨s, t, x, rfl, hx, o, rfl⟩ := e
  obtain ⟨s', t', x', hm, hx', o', rfl⟩ := e'
  obtain ⟨o1, o2, o3, o4, o5, o6, -⟩ := o
  obtain ⟨p1, p2, p3, p4, p5, p6, -⟩ := o'
  have ht : t = t' := by omega
  have hxx : x = x' := by omega
  subst ht; subst hxx
  obtain ⟨l, hl⟩ := hd_cons o6
  obtain ⟨l', hl'⟩ := hd_cons p6
  have hs : s = s' := h.2.1 s s' x (by rw [hl]; exact List.mem_cons_self) (by rw [hl']; exact List.mem_cons_self)
  rw [hs]
theorem run_dig (hc : c ≤ 4) (hr : ∀ t, r t ≤ 4) : ∀ {L : List Int} {a z : St}, wfS c a → runR c r w pn b L a z → ∀ m ∈ L, 0 ≤ m ∧ m < 80
  | [], _, _, _, _ => fun m hm => by cases hm
  | m :: L, a, z, h, e => by
    obtain ⟨a', e1, e2⟩ := e
    have e1' := e1
    obtain ⟨s, t, x, -, -, o, rfl⟩ := e1
    intro q hq
    rcases List.mem_cons.mp hq with hq | hq
    · rw [hq]
      exact step_dig hc h e1'
    · exact run_dig hc hr (wf_do hr h o) e2 q hq
theorem run_det (hc : c ≤ 4) (hr : ∀ t, r t ≤ 4) : ∀ {L : List Int} {a z z' : St}, wfS c a → runR c r w pn b L a z → runR c r w pn b L a z' → z = z'
  | [], a, z, z', _, e, e' => by
    have e : a = z := e
    have e' : a = z' := e'
    rw [← e, ← e']
  | m :: L, a, z, z', h, e, e' => by
    obtain ⟨a1, e1, e2⟩ := e
    obtain ⟨a2, f1, f2⟩ := e'
    have q := step_det hc h e1 f1
    subst q
    obtain ⟨s, t, x, -, -, o, rfl⟩ := e1
    exact run_det hc hr (wf_do hr h o) e2 f2
/-- L digs b out -/
def plnR (c : Int) (r w : Int → Int) (pn : Int → Bool) (b : Int) (a : St) (L : List Int) : Prop := ∃ z, runR c r w pn b L a z ∧ ovR z b 0
/-! the long of a begun plan -/
def mC : List Int → Int → Int
  | [], _ => 0
  | m :: L, i => m * bSh i + mC L (i + 1)
def keyN (nd : Int) (L : List Int) : Int := nd * 2147483648 + mC L 0 + L.length
def digs (L : List Int) : Prop := ∀ m ∈ L, 0 ≤ m ∧ m < 80
theorem bSh_0 : bSh 0 = 16777216 := by decide
theorem bSh_1 : bSh 1 = 131072 := by decide
theorem bSh_2 : bSh 2 = 1024 := by decide
theorem bSh_3 : bSh 3 = 8 := by decide
theorem mC_0 : mC [] 0 = 0 := rfl
theorem mC_1 (p : Int) : mC [p] 0 = p * 16777216 := by simp [mC, bSh_0]
theorem mC_2 (p q : Int) : mC [p, q] 0 = p * 16777216 + q * 131072 := by simp [mC, bSh_0, bSh_1]
theorem mC_3 (p q u : Int) : mC [p, q, u] 0 = p * 16777216 + q * 131072 + u * 1024 := by simp [mC, bSh_0, bSh_1, bSh_2]; omega
theorem mC_4 (p q u v : Int) : mC [p, q, u, v] 0 = p * 16777216 + q * 131072 + u * 1024 + v * 8 := by simp [mC, bSh_0, bSh_1, bSh_2, bSh_3]; omega
/-- a list of at most four moves, by its length -/
theorem four {P : List Int → Prop} (h0 : P []) (h1 : ∀ p, 0 ≤ p ∧ p < 80 → P [p]) (h2 : ∀ p q, (0 ≤ p ∧ p < 80) → (0 ≤ q ∧ q < 80) → P [p, q]) (h3 : ∀ p q u, (0 ≤ p ∧ p < 80) → (0 ≤ q ∧ q < 80) → (0 ≤ u ∧ u < 80) → P [p, q, u]) (h4 : ∀ p q u v, (0 ≤ p ∧ p < 80) → (0 ≤ q ∧ q < 80) → (0 ≤ u ∧ u < 80) → (0 ≤ v ∧ v < 80) → P [p, q, u, v]) {L : List Int} (hd : digs L) (hl : L.length ≤ 4) : P L := by
  match L, hd, hl with
  | [], _, _ => exact h0
  | [p], hd, _ => exact h1 p (hd p (by simp))
  | [p, q], hd, _ => exact h2 p q (hd p (by simp)) (hd q (by simp))
  | [p, q, u], hd, _ => exact h3 p q u (hd p (by simp)) (hd q (by simp)) (hd u (by simp))
  | [p, q, u, v], hd, _ => exact h4 p q u v (hd p (by simp)) (hd q (by simp)) (hd u (by simp)) (hd v (by simp))
  | _ :: _ :: _ :: _ :: _ :: _, _, hl => simp at hl
theorem key_rng {L : List Int} (hd : digs L) (hl : L.length ≤ 4) : 0 ≤ mC L 0 ∧ mC L 0 + L.length < 2147483648 ∧ mC L 0 % 8 = 0 := by
  refine four (P := fun L => 0 ≤ mC L 0 ∧ mC L 0 + L.length < 2147483648 ∧ mC L 0 % 8 = 0) ?_ ?_ ?_ ?_ ?_ hd hl
  · decide
  · intro p hp; rw [mC_1]; simp only [List.length_cons, List.length_nil]; omega
  · intro p q hp hq; rw [mC_2]; simp only [List.length_cons, List.length_nil]; omega
  · intro p q u hp hq hu; rw [mC_3]; simp only [List.length_cons, List.length_nil]; omega
  · intro p q u v hp hq hu hv; rw [mC_4]; simp only [List.length_cons, List.length_nil]; omega
theorem key_need {nd : Int} {L : List Int} (hd : digs L) (hl : L.length ≤ 4) : keyN nd L / 2147483648 = nd ∧ keyN nd L % 8 = L.length := by
  have h := key_rng hd hl
  unfold keyN
  omega
theorem key_low {nd : Int} {L : List Int} (hd : digs L) (hl : L.length ≤ 3) : (keyN nd L % 2147483648 - keyN nd L % 8) = mC L 0 ∧ mC L 0 % (bSh L.length * 128) = 0 := by
  have h := key_rng hd (by omega)
  refine ⟨by unfold keyN; omega, ?_⟩
  match L, hd, hl with
  | [], _, _ => decide
  | [p], hd, _ => rw [mC_1]; show p * 16777216 % (131072 * 128) = 0; omega
  | [p, q], hd, _ => rw [mC_2]; show (p * 16777216 + q * 131072) % (1024 * 128) = 0; omega
  | [p, q, u], hd, _ => rw [mC_3]; show (p * 16777216 + q * 131072 + u * 1024) % (8 * 128) = 0; omega
  | _ :: _ :: _ :: _ :: _, _, hl => simp at hl
theorem mC_snoc {L : List Int} {m : Int} (hl : L.length ≤ 3) : mC (L ++ [m]) 0 = mC L 0 + m * bSh L.length := by
  match L, hl with
  | [], _ => simp [mC_1, mC_0, bSh_0]
  | [p], _ => simp [mC_2, mC_1, bSh_1]
  | [p, q], _ => simp [mC_3, mC_2, bSh_2]
  | [p, q, u], _ => simp [mC_4, mC_3, bSh_3]
  | _ :: _ :: _ :: _ :: _, hl => simp at hl
/-- the i-th move of it -/
theorem key_move {nd : Int} {L : List Int} (hd : digs L) (hl : L.length ≤ 4) (hnd : 0 ≤ nd) {i : Nat} {m : Int} (h : L[i]? = some m) : bMv (keyN nd L) i = m := by
  have hlt := (List.getElem?_eq_some_iff.mp h).1
  unfold bMv keyN
  match L, hd, hl, i, h, hlt with
  | [p], hd, _, 0, h, _ => have := hd p (by simp); simp at h; subst h; rw [mC_1]; show (nd * 2147483648 + p * 16777216 + 1) / 16777216 % 128 = p; omega
  | [p, q], hd, _, 0, h, _ => have := hd p (by simp); have := hd q (by simp); simp at h; subst h; rw [mC_2]; show (nd * 2147483648 + (p * 16777216 + q * 131072) + 2) / 16777216 % 128 = p; omega
  | [p, q], hd, _, 1, h, _ => have := hd p (by simp); have := hd q (by simp); simp at h; subst h; rw [mC_2]; show (nd * 2147483648 + (p * 16777216 + q * 131072) + 2) / 131072 % 128 = q; omega
  | [p, q, u], hd, _, 0, h, _ => have := hd p (by simp); have := hd q (by simp); have := hd u (by simp); simp at h; subst h; rw [mC_3]; show (nd * 2147483648 + (p * 16777216 + q * 131072 + u * 1024) + 3) / 16777216 % 128 = p; omega
  | [p, q, u], hd, _, 1, h, _ => have := hd p (by simp); have := hd q (by simp); have := hd u (by simp); simp at h; subst h; rw [mC_3]; show (nd * 2147483648 + (p * 16777216 + q * 131072 + u * 1024) + 3) / 131072 % 128 = q; omega
  | [p, q, u], hd, _, 2, h, _ => have := hd p (by simp); have := hd q (by simp); have := hd u (by simp); simp at h; subst h; rw [mC_3]; show (nd * 2147483648 + (p * 16777216 + q * 131072 + u * 1024) + 3) / 1024 % 128 = u; omega
  | [p, q, u, v], hd, _, 0, h, _ => have := hd p (by simp); have := hd q (by simp); have := hd u (by simp); have := hd v (by simp); simp at h; subst h; rw [mC_4]; show (nd * 2147483648 + (p * 16777216 + q * 131072 + u * 1024 + v * 8) + 4) / 16777216 % 128 = p; omega
  | [p, q, u, v], hd, _, 1, h, _ => have := hd p (by simp); have := hd q (by simp); have := hd u (by simp); have := hd v (by simp); simp at h; subst h; rw [mC_4]; show (nd * 2147483648 + (p * 16777216 + q * 131072 + u * 1024 + v * 8) + 4) / 131072 % 128 = q; omega
  | [p, q, u, v], hd, _, 2, h, _ => have := hd p (by simp); have := hd q (by simp); have := hd u (by simp); have := hd v (by simp); simp at h; subst h; rw [mC_4]; show (nd * 2147483648 + (p * 16777216 + q * 131072 + u * 1024 + v * 8) + 4) / 1024 % 128 = u; omega
  | [p, q, u, v], hd, _, 3, h, _ => have := hd p (by simp); have := hd q (by simp); have := hd u (by simp); have := hd v (by simp); simp at h; subst h; rw [mC_4]; show (nd * 2147483648 + (p * 16777216 + q * 131072 + u * 1024 + v * 8) + 4) / 8 % 128 = v; omega
  | _ :: _ :: _ :: _ :: _ :: _, _, hl, _, _, _ => simp at hl
/-- the order of lists of the same length, place by place -/
def lexL : List Int → List Int → Prop
  | a :: A, b :: B => a < b ∨ (a = b ∧ lexL A B)
  | _, _ => False
theorem lex_tri : ∀ {A B : List Int}, A.length = B.length → A = B ∨ lexL A B ∨ lexL B A
  | [], [], _ => Or.inl rfl
  | a :: A, b :: B, h => by
    have h2 : A.length = B.length := by simpa using h
    rcases Int.lt_trichotomy a b with q | q | q
    · exact Or.inr (Or.inl (Or.inl q))
    · subst q
      rcases lex_tri h2 with z | z | z
      · exact Or.inl (by rw [z])
      · exact Or.inr (Or.inl (Or.inr ⟨rfl, z⟩))
      · exact Or.inr (Or.inr (Or.inr ⟨rfl, z⟩))
    · exact Or.inr (Or.inr (Or.inl q))
theorem lex_key {A B : List Int} (hA : digs A) (hB : digs B) (hl : A.length ≤ 4) (he : A.length = B.length) (h : lexL A B) : mC A 0 < mC B 0 := by
  match A, B, hA, hB, hl, he, h with
  | [p], [p'], hA, hB, _, _, h => have := hA p (by simp); have := hB p' (by simp); simp [lexL] at h; rw [mC_1, mC_1]; omega
  | [p, q], [p', q'], hA, hB, _, _, h => have := hA p (by simp); have := hB p' (by simp); have := hA q (by simp); have := hB q' (by simp); simp [lexL] at h; rw [mC_2, mC_2]; omega
  | [p, q, u], [p', q', u'], hA, hB, _, _, h => have := hA p (by simp); have := hB p' (by simp); have := hA q (by simp); have := hB q' (by simp); have := hA u (by simp); have := hB u' (by simp); simp [lexL] at h; rw [mC_3, mC_3]; omega
  | [p, q, u, v], [p', q', u', v'], hA, hB, _, _, h => have := hA p (by simp); have := hB p' (by simp); have := hA q (by simp); have := hB q' (by simp); have := hA u (by simp); have := hB u' (by simp); have := hA v (by simp); have := hB v' (by simp); simp [lexL] at h; rw [mC_4, mC_4]; omega
  | _ :: _ :: _ :: _ :: _ :: _, _, _, _, hl, _, _ => simp at hl
theorem key_app {P R : List Int} (h : digs (P ++ R)) (hl : (P ++ R).length ≤ 4) : mC P 0 ≤ mC (P ++ R) 0 := by
  match P, R, h, hl with
  | P, [], _, _ => rw [List.append_nil]; exact Int.le_refl _
  | [], R, h, hl => exact (key_rng h hl).1
  | [p], [q], h, _ => have := h q (by simp); rw [mC_1]; show _ ≤ mC [p, q] 0; rw [mC_2]; omega
  | [p], [q, u], h, _ => have := h q (by simp); have := h u (by simp); rw [mC_1]; show _ ≤ mC [p, q, u] 0; rw [mC_3]; omega
  | [p], [q, u, v], h, _ => have := h q (by simp); have := h u (by simp); have := h v (by simp); rw [mC_1]; show _ ≤ mC [p, q, u, v] 0; rw [mC_4]; omega
  | [p, q], [u], h, _ => have := h u (by simp); rw [mC_2]; show _ ≤ mC [p, q, u] 0; rw [mC_3]; omega
  | [p, q], [u, v], h, _ => have := h u (by simp); have := h v (by simp); rw [mC_2]; show _ ≤ mC [p, q, u, v] 0; rw [mC_4]; omega
  | [p, q, u], [v], h, _ => have := h v (by simp); rw [mC_3]; show _ ≤ mC [p, q, u, v] 0; rw [mC_4]; omega
  | [p], _ :: _ :: _ :: _ :: _, _, hl => simp at hl
  | [p, q], _ :: _ :: _ :: _, _, hl => simp at hl
  | [p, q, u], _ :: _ :: _, _, hl => simp at hl
  | _ :: _ :: _ :: _ :: _, _ :: _, _, hl => simp at hl
end PLAN
end
section
/-! the search for the first plan, over the heap's list of begun plans -/
section SEARCH
variable {c : Int} {r w : Int → Int} {pn : Int → Bool} {b : Int}
/-- a begun plan: a run of moves from a, whose need is at most lim -/
def nodeB (c : Int) (r w : Int → Int) (pn : Int → Bool) (b : Int) (a : St) (lim : Int) (L : List Int) (z : St) (n : Nat) : Prop := runR c r w pn b L a z ∧ ovR z b n ∧ (L.length : Int) + n ≤ lim
def isNode (c : Int) (r w : Int → Int) (pn : Int → Bool) (b : Int) (a : St) (lim B : Int) : Prop := ∃ L z n, nodeB c r w pn b a lim L z n ∧ B = keyN ((L.length : Int) + (n : Nat)) L
/-- the search's invariant over the begun plans at hand -/
def seaI (c : Int) (r w : Int → Int) (pn : Int → Bool) (b : Int) (a : St) (lim : Int) (H : List Int) : Prop := (∀ B ∈ H, isNode c r w pn b a lim B) ∧ ∀ L, plnR c r w pn b a L → (L.length : Int) ≤ lim → ∃ P R z n, L = P ++ R ∧ runR c r w pn b P a z ∧ ovR z b n ∧ keyN ((P.length : Int) + (n : Nat)) P ∈ H
/-- B's children -/
def isKid (c : Int) (r w : Int → Int) (pn : Int → Bool) (b : Int) (lim : Int) (L : List Int) (z : St) (s t x : Int) (B : Int) : Prop := okM c r w pn z s t x ∧ ∃ n' : Nat, ovR (doM z s t x) b n' ∧ (L.length : Int) + 1 + n' ≤ lim ∧ B = keyN ((L.length : Int) + 1 + n') (L ++ [4 * x + t])
/-- the least plan -/
def leastP (c : Int) (r w : Int → Int) (pn : Int → Bool) (b : Int) (a : St) (lim : Int) (L : List Int) : Prop := plnR c r w pn b a L ∧ (L.length : Int) ≤ lim ∧ ∀ L', plnR c r w pn b a L' → (L'.length : Int) ≤ lim → keyN L.length L ≤ keyN L'.length L'
theorem seaI_0 {a : St} {lim : Int} {n : Nat} (h : ovR a b n) (hl : (n : Int) ≤ lim) : seaI c r w pn b a lim [keyN n []] := by
  refine ⟨fun B hB => ?_, fun L hL hl2 => ⟨[], L, a, n, rfl, rfl, h, ?_⟩⟩
  · have e : B = keyN n [] := by simpa using hB
    exact ⟨[], a, n, ⟨rfl, h, by simp; exact hl⟩, by rw [e]; simp⟩
  · simp
theorem seaI_perm {a : St} {lim : Int} {H H2 : List Int} (hp : H2.Perm H) (h : seaI c r w pn b a lim H) : seaI c r w pn b a lim H2 := by
  refine ⟨fun B hB => h.1 B (hp.mem_iff.mp hB), fun L hL hl => ?_⟩
  obtain ⟨P, R, z, n, e, h1, h2, h3⟩ := h.2 L hL hl
  exact ⟨P, R, z, n, e, h1, h2, hp.mem_iff.mpr h3⟩
theorem seaI_no {a : St} {lim : Int} (h : seaI c r w pn b a lim []) {L : List Int} (hL : plnR c r w pn b a L) (hl : (L.length : Int) ≤ lim) : False := by
  obtain ⟨P, R, z, n, e, h1, h2, h3⟩ := h.2 L hL hl
  cases h3
theorem need_le {a z : St} {P R : List Int} {n : Nat} (hr : ∀ t, r t ≤ 4) (hc : c ≤ 4) (hw : wfS c a) (h : plnR c r w pn b a (P ++ R)) (h1 : runR c r w pn b P a z) (h2 : ovR z b n) : n ≤ R.length := by
  obtain ⟨y, h3, h4⟩ := h
  obtain ⟨z', h5, h6⟩ := run_app.mp h3
  have e := run_det hc hr hw h1 h5
  subst e
  obtain ⟨n', h7, h8⟩ := ov_run h6 h2
  have e2 := ov_u (wf_run hr (wf_run hr hw h1) h6) h4 h7
  omega
theorem key_pre {a z : St} {P R : List Int} {n : Nat} (hr : ∀ t, r t ≤ 4) (hc : c ≤ 4) (hw : wfS c a) (h : plnR c r w pn b a (P ++ R)) (h1 : runR c r w pn b P a z) (h2 : ovR z b n) (hl : (P ++ R).length ≤ 4) : keyN ((P.length : Int) + n) P ≤ keyN (P ++ R).length (P ++ R) := by
  have hn := need_le hr hc hw h h1 h2
  obtain ⟨y, h3, h4⟩ := h
  have hd : digs (P ++ R) := run_dig hc hr hw h3
  have hdP : digs P := fun m hm => hd m (List.mem_append_left _ hm)
  have ha := key_app hd hl
  have hA := key_rng hd hl
  have hlP : P.length ≤ 4 := by rw [List.length_append] at hl; omega
  have hB := key_rng hdP hlP
  unfold keyN
  rw [List.length_append] at hA ⊢
  by_cases q : n = R.length
  · subst q
    push_cast at *
    omega
  · push_cast at *
    omega
/-- the first begun plan that needs nothing more is the least plan -/
theorem seaI_goal {a z : St} {lim : Int} {H : List Int} {L : List Int} (hr : ∀ t, r t ≤ 4) (hc : c ≤ 4) (hlim : lim ≤ 4) (hw : wfS c a) (h : seaI c r w pn b a lim H) (hB : nodeB c r w pn b a lim L z 0) (hm : ∀ B ∈ H, keyN L.length L ≤ B) : leastP c r w pn b a lim L := by
  refine ⟨⟨z, hB.1, hB.2.1⟩, by have := hB.2.2; omega, fun L' hL' hl' => ?_⟩
  obtain ⟨P, R, z', n, e, h1, h2, h3⟩ := h.2 L' hL' hl'
  subst e
  exact Int.le_trans (hm _ h3) (key_pre hr hc hw hL' h1 h2 (by omega))
/-- a begun plan is gone on with -/
theorem seaI_step {a z : St} {lim : Int} {H H2 CH : List Int} {L : List Int} {n : Nat} (hr : ∀ t, r t ≤ 4) (hc : c ≤ 4) (hlim : lim ≤ 4) (hw : wfS c a) (h : seaI c r w pn b a lim (keyN ((L.length : Int) + n) L :: H)) (hB : nodeB c r w pn b a lim L z n) (hn : n ≠ 0) (hp : H2.Perm (CH ++ H)) (hk1 : ∀ B ∈ CH, ∃ s t x, isKid c r w pn b lim L z s t x B) (hk2 : ∀ s t x B, isKid c r w pn b lim L z s t x B → B ∈ CH) : seaI c r w pn b a lim H2 := by
  have hz : wfS c z := wf_run hr hw hB.1
  have hkid : ∀ s t x, okM c r w pn z s t x → x ≠ b := by
    intro s t x o q
    obtain ⟨o1, o2, o3, o4, o5, o6, -⟩ := o
    obtain ⟨l, hl⟩ := hd_cons o6
    obtain ⟨s0, hb, hx⟩ := hB.2.1
    have e : s = s0 := hz.2.1 s s0 b (by rw [hl, q]; exact List.mem_cons_self) hb
    rw [← e, hl, q] at hx
    unfold ixO at hx
    rw [if_pos rfl] at hx
    exact hn hx.symm
  refine seaI_perm hp ⟨fun B hB2 => ?_, fun L' hL' hl' => ?_⟩
  · rcases List.mem_append.mp hB2 with q | q
    · obtain ⟨s, t, x, o, n', h1, h2, h3⟩ := hk1 B q
      refine ⟨L ++ [4 * x + t], doM z s t x, n', ⟨run_app.mpr ⟨z, hB.1, ⟨_, ⟨s, t, x, rfl, hkid s t x o, o, rfl⟩, rfl⟩⟩, h1, by rw [List.length_append]; push_cast; simp only [List.length_cons, List.length_nil]; omega⟩, ?_⟩
      rw [h3, List.length_append]
      push_cast
      rfl
    · exact h.1 B (List.mem_cons_of_mem _ q)
  · obtain ⟨P, R, z', n', e, h1, h2, h3⟩ := h.2 L' hL' hl'
    rcases List.mem_cons.mp h3 with q | q
    · -- the prefix is the one that was taken: the next one has been added
      have hl4 : L'.length ≤ 4 := by omega
      subst e
      have hd : digs (P ++ R) := by
        obtain ⟨y, g1, -⟩ := hL'
        exact run_dig hc hr hw g1
      have hdP : digs P := fun m hm => hd m (List.mem_append_left _ hm)
      have hdL : digs L := run_dig hc hr hw hB.1
      have hlP : P.length ≤ 4 := by rw [List.length_append] at hl4; omega
      have hlL : L.length ≤ 4 := by have := hB.2.2; omega
      have k1 := key_need (nd := (P.length : Int) + n') hdP hlP
      have k2 := key_need (nd := (L.length : Int) + n) hdL hlL
      rw [q] at k1
      have hlen : P.length = L.length := by omega
      have hPL : P = L := by
        rcases lex_tri hlen with z1 | z1 | z1
        · exact z1
        · have := lex_key hdP hdL hlP hlen z1
          unfold keyN at q
          have hnn : n' = n := by omega
          subst hnn
          rw [hlen] at q
          omega
        · have := lex_key hdL hdP hlL hlen.symm z1
          unfold keyN at q
          have hnn : n' = n := by omega
          subst hnn
          rw [hlen] at q
          omega
      subst hPL
      have ez := run_det hc hr hw h1 hB.1
      subst ez
      have en := ov_u hz h2 hB.2.1
      subst en
      cases R with
      | nil =>
        rw [List.append_nil] at hL'
        obtain ⟨y, g1, g2⟩ := hL'
        have e3 := run_det hc hr hw h1 g1
        subst e3
        exact absurd (ov_u hz h2 g2) hn
      | cons m R =>
        have hL2 := hL'
        obtain ⟨y, g1, g2⟩ := hL'
        obtain ⟨z2, g3, g4⟩ := run_app.mp g1
        have e3 := run_det hc hr hw h1 g3
        subst e3
        obtain ⟨a', g5, g6⟩ := g4
        have g5' := g5
        obtain ⟨s, t, x, rfl, hx, o, rfl⟩ := g5
        obtain ⟨s0, hb, hix⟩ := h2
        have hov : ∃ n2 : Nat, ovR (doM z' s t x) b n2 := by
          rcases ov_do hx o hb hix with ⟨-, -, q1, q2⟩ | ⟨-, -, q1, q2⟩ | ⟨-, -, q1, q2⟩
          · exact ⟨_, s0, q1, q2⟩
          · exact ⟨_, s0, q1, q2⟩
          · exact ⟨_, s0, q1, q2⟩
        obtain ⟨n2, hov⟩ := hov
        have hrun2 : runR c r w pn b (P ++ [4 * x + t]) a (doM z' s t x) := run_app.mpr ⟨z', h1, ⟨_, g5', rfl⟩⟩
        have hap : P ++ (4 * x + t) :: R = (P ++ [4 * x + t]) ++ R := by simp
        have hn2 : n2 ≤ R.length := need_le hr hc hw (by rw [← hap]; exact hL2) hrun2 hov
        rw [List.length_append, List.length_cons] at hl'
        refine ⟨P ++ [4 * x + t], R, doM z' s t x, n2, hap, hrun2, hov, List.mem_append_left _ (hk2 s t x _ ⟨o, n2, hov, by push_cast at hl'; omega, ?_⟩)⟩
        rw [List.length_append]
        push_cast
        rfl
    · exact ⟨P, R, z', n', e, h1, h2, List.mem_append_right _ q⟩
/-! how many begun plans can come -/
def wN (e n : Int) : Int := if e = 0 then (if n = 0 then 1 else if n = 1 then 4 else if n = 2 then 13 else 40) else (if n = 0 then 1 else if n = 1 then 28 else if n = 2 then 163 else 730)
def wB (lim B : Int) : Int := wN (lim - B / 2147483648) (B / 2147483648 - B % 8)
def sumW (lim : Int) : List Int → Int
  | [] => 0
  | B :: H => wB lim B + sumW lim H
theorem wN_pos (e n : Int) : 1 ≤ wN e n ∧ wN e n ≤ 730 := by
  unfold wN
  repeat' split
  all_goals omega
theorem sumW_perm {lim : Int} {H H2 : List Int} (h : H.Perm H2) : sumW lim H = sumW lim H2 := by
  induction h with
  | nil => rfl
  | cons x _ ih => simp only [sumW, ih]
  | swap x y l => simp only [sumW]; omega
  | trans _ _ h1 h2 => rw [h1, h2]
theorem sumW_app {lim : Int} : ∀ {H H2 : List Int}, sumW lim (H ++ H2) = sumW lim H + sumW lim H2
  | [], H2 => by simp [sumW]
  | B :: H, H2 => by
    simp only [List.cons_append, sumW, sumW_app]
    omega
theorem sumW_len {lim : Int} : ∀ {H : List Int}, (H.length : Int) ≤ sumW lim H
  | [] => by simp [sumW]
  | B :: H => by
    have := sumW_len (lim := lim) (H := H)
    have h1 := (wN_pos (lim - B / 2147483648) (B / 2147483648 - B % 8)).1
    simp only [sumW, List.length_cons, wB]
    push_cast
    omega
theorem sumW_nn {lim : Int} {H : List Int} : 0 ≤ sumW lim H := by
  have := sumW_len (lim := lim) (H := H)
  omega
theorem hpL_len (f : Int → Int) : ∀ n : Nat, (hpL f n).length = n
  | 0 => rfl
  | n + 1 => by simp [hpL, hpL_len f n]
end SEARCH
end
section
/-! a yard's cells as stacks of boxes -/
theorem tlS_len (p : Int → Int) (s : Int) : ∀ n : Nat, (tlS p s n).length = n
  | 0 => rfl
  | n + 1 => by simp [tlS, tlS_len p s n]
theorem tlS_eq {p p' : Int → Int} {s : Int} : ∀ {n : Nat}, (∀ k : Int, 0 ≤ k → k < n → p' (s * 4 + k) = p (s * 4 + k)) → tlS p' s n = tlS p s n
  | 0, _ => rfl
  | n + 1, h => by
    unfold tlS
    rw [h n (by omega) (by omega), tlS_eq (n := n) (fun k a b => h k a (by omega))]
theorem tlS_mem {p : Int → Int} {s x : Int} : ∀ {n : Nat}, x ∈ tlS p s n ↔ ∃ k : Int, 0 ≤ k ∧ k < n ∧ p (s * 4 + k) = x
  | 0 => by simp [tlS]; omega
  | n + 1 => by
    simp only [tlS, List.mem_cons, tlS_mem (n := n)]
    constructor
    · rintro (h | ⟨k, h1, h2, h3⟩)
      · exact ⟨n, by omega, by omega, h.symm⟩
      · exact ⟨k, h1, by omega, h3⟩
    · rintro ⟨k, h1, h2, h3⟩
      by_cases h : k = n
      · exact Or.inl (by rw [← h3, h])
      · exact Or.inr ⟨k, h1, by omega, h3⟩
theorem tlS_ix {p : Int → Int} {s x k : Int} : ∀ {n : Nat}, (tlS p s n).Nodup → 0 ≤ k → k < n → p (s * 4 + k) = x → ((ixO x (tlS p s n) : Nat) : Int) = n - 1 - k
  | 0, _, h1, h2, _ => by omega
  | n + 1, hd, h1, h2, h3 => by
    unfold tlS at hd ⊢
    obtain ⟨d1, d2⟩ := List.nodup_cons.mp hd
    unfold ixO
    by_cases h : k = n
    · rw [if_pos (by rw [← h3, h])]
      omega
    · have hm : x ∈ tlS p s n := tlS_mem.mpr ⟨k, h1, by omega, h3⟩
      rw [if_neg (fun q => d1 (by rw [q]; exact hm))]
      have := tlS_ix (n := n) d2 h1 (by omega) h3
      omega
def cut4 (r : Int → Int) : Int → Int := fun t => if 0 ≤ t ∧ t < 4 then r t else 0
theorem cut4_in {r : Int → Int} {t : Int} (h : 0 ≤ t ∧ t < 4) : cut4 r t = r t := by simp [cut4, h]
theorem cut4_eq {r r' : Int → Int} (h : ∀ t, 0 ≤ t → t < 4 → r' t = r t) : cut4 r' = cut4 r := by
  funext t
  unfold cut4
  by_cases q : 0 ≤ t ∧ t < 4
  · rw [if_pos q, if_pos q, h t q.1 q.2]
  · rw [if_neg q, if_neg q]
theorem stOf_in {h p : Int → Int} {s : Int} (q : 0 ≤ s ∧ s < 4) : stOf h p s = tlS p s (h s).toNat := by simp [stOf, q]
theorem stOf_out {h p : Int → Int} {s : Int} (q : ¬ (0 ≤ s ∧ s < 4)) : stOf h p s = [] := by
  unfold stOf
  rw [if_neg q]
theorem stOf_eq {h h' p p' : Int → Int} (e1 : ∀ s, 0 ≤ s → s < 4 → h' s = h s) (hh : ∀ s, 0 ≤ s → s < 4 → h s ≤ 4) (e2 : ∀ j, 0 ≤ j → j < 16 → p' j = p j) : stOf h' p' = stOf h p := by
  funext s
  by_cases q : 0 ≤ s ∧ s < 4
  · rw [stOf_in q, stOf_in q, e1 s q.1 q.2]
    have := hh s q.1 q.2
    exact tlS_eq (fun k k1 k2 => e2 _ (by omega) (by omega))
  · rw [stOf_out q, stOf_out q]
theorem stOf_len {h p : Int → Int} {s : Int} (q : 0 ≤ s ∧ s < 4) (h0 : 0 ≤ h s) : ((stOf h p s).length : Int) = h s := by
  rw [stOf_in q, tlS_len]
  omega
theorem stOf_hd {h p : Int → Int} {s : Int} (q : 0 ≤ s ∧ s < 4) (h0 : 0 < h s) : stOf h p s = p (s * 4 + h s - 1) :: tlS p s ((h s).toNat - 1) := by
  rw [stOf_in q]
  have e : (h s).toNat = ((h s).toNat - 1) + 1 := by omega
  rw [e]
  show p (s * 4 + (((h s).toNat - 1 : Nat) : Int)) :: tlS p s ((h s).toNat - 1) = _
  have e2 : s * 4 + (((h s).toNat - 1 : Nat) : Int) = s * 4 + h s - 1 := by omega
  rw [e2]
  rfl
theorem stOf_nil {h p : Int → Int} {s : Int} (h0 : h s = 0) : stOf h p s = [] := by
  by_cases q : 0 ≤ s ∧ s < 4
  · rw [stOf_in q, h0]
    rfl
  · exact stOf_out q
theorem stOf_mv {h p : Int → Int} {s t : Int} (hs : 0 ≤ s ∧ s < 4) (ht : 0 ≤ t ∧ t < 4) (hst : s ≠ t) (h0 : 0 < h s) (hh : ∀ s, 0 ≤ s → s < 4 → 0 ≤ h s ∧ h s ≤ 4) (h4 : h t < 4) : stOf (uI (uI h s (h s - 1)) t (h t + 1)) (uI p (t * 4 + h t) (p (s * 4 + h s - 1))) = doM (stOf h p) s t (p (s * 4 + h s - 1)) := by
  funext u
  have hb := hh s hs.1 hs.2
  have hb2 := hh t ht.1 ht.2
  by_cases us : u = s
  · subst us
    rw [doM_s, stOf_hd hs h0, stOf_in hs, uI_n hst, uI_s]
    have e : (h u - 1).toNat = (h u).toNat - 1 := by omega
    rw [e]
    exact tlS_eq (fun k k1 k2 => uI_n (by omega))
  · by_cases ut : u = t
    · subst ut
      rw [doM_t (Ne.symm hst), stOf_in ht, uI_s, stOf_in ht]
      have e : (h u + 1).toNat = (h u).toNat + 1 := by omega
      have e3 : u * 4 + (((h u).toNat : Nat) : Int) = u * 4 + h u := by omega
      rw [e]
      show uI p _ _ (u * 4 + (((h u).toNat : Nat) : Int)) :: tlS _ u (h u).toNat = _
      rw [e3, uI_s]
      congr 1
      exact tlS_eq (fun k k1 k2 => uI_n (by omega))
    · rw [doM_o us ut]
      by_cases q : 0 ≤ u ∧ u < 4
      · rw [stOf_in q, stOf_in q, uI_n ut, uI_n us]
        have := hh u q.1 q.2
        exact tlS_eq (fun k k1 k2 => uI_n (by omega))
      · rw [stOf_out q, stOf_out q]
/-- a yard in order -/
def yOK (c : Int) (r h p so : Int → Int) : Prop := (0 ≤ c ∧ c ≤ 4) ∧ (∀ s, 0 ≤ s → s < 4 → 0 ≤ h s ∧ h s ≤ 4 ∧ r s ≤ 4) ∧ (∀ s, c ≤ s → s < 4 → h s = 0) ∧ (∀ s, 0 ≤ s → s < c → h s ≤ r s) ∧ wfS c (stOf h p) ∧ (∀ s x, x ∈ stOf h p s → so x = s) ∧ (∀ x, 0 ≤ x → x < 20 → so x ≠ -1 → x ∈ stOf h p (so x))
theorem yOK_cut {c : Int} {r h p so : Int → Int} (o : yOK c r h p so) : ∀ t, cut4 r t ≤ 4 := by
  intro t
  unfold cut4
  split
  · rename_i q
    exact (o.2.1 t q.1 q.2).2.2
  · decide
theorem okM_in {c : Int} {r h p so w : Int → Int} {pn : Int → Bool} {s t x : Int} (o : yOK c r h p so) (k : okM c (cut4 r) w pn (stOf h p) s t x) : (0 ≤ s ∧ s < 4) ∧ (0 ≤ t ∧ t < 4) ∧ s ≠ t ∧ 0 < h s ∧ x = p (s * 4 + h s - 1) ∧ h t < r t ∧ h t < 4 ∧ so x = s ∧ (0 ≤ x ∧ x < 20) := by
  obtain ⟨o1, o2, o3, o4, o5, o6, o7⟩ := o
  obtain ⟨k1, k2, k3, k4, k5, k6, k7, k8, k9⟩ := k
  have hs : 0 ≤ s ∧ s < 4 := by omega
  have ht : 0 ≤ t ∧ t < 4 := by omega
  have b1 := o2 s hs.1 hs.2
  have b2 := o2 t ht.1 ht.2
  rw [stOf_len ht b2.1, cut4_in ht] at k8
  have h0 : 0 < h s := by
    by_cases q : h s = 0
    · rw [stOf_nil q] at k6
      cases k6
    · omega
  have hx : x = p (s * 4 + h s - 1) := by
    rw [stOf_hd hs h0] at k6
    simp at k6
    exact k6.symm
  have hm : x ∈ stOf h p s := by
    rw [stOf_hd hs h0, hx]
    exact List.mem_cons_self
  exact ⟨hs, ht, k5, h0, hx, k8, by omega, o6 s x hm, o5.2.2.1 s x hm⟩
theorem yOK_mv {c : Int} {r h p so w : Int → Int} {pn : Int → Bool} {s t x : Int} (o : yOK c r h p so) (k : okM c (cut4 r) w pn (stOf h p) s t x) : yOK c r (uI (uI h s (h s - 1)) t (h t + 1)) (uI p (t * 4 + h t) x) (uI (uI so x (-1)) x t) ∧ stOf (uI (uI h s (h s - 1)) t (h t + 1)) (uI p (t * 4 + h t) x) = doM (stOf h p) s t x := by
  obtain ⟨q1, q2, q3, q4, q5, q6, q7, q8, q9⟩ := okM_in o k
  have hcut := yOK_cut o
  have k' := k
  obtain ⟨o1, o2, o3, o4, o5, o6, o7⟩ := o
  obtain ⟨k1, k2, k3, k4, -⟩ := k
  have e : stOf (uI (uI h s (h s - 1)) t (h t + 1)) (uI p (t * 4 + h t) x) = doM (stOf h p) s t x := by
    rw [q5]
    exact stOf_mv q1 q2 q3 q4 (fun s a b => ⟨(o2 s a b).1, (o2 s a b).2.1⟩) q7
  refine ⟨⟨o1, fun u a b => ?_, fun u a b => ?_, fun u a b => ?_, by rw [e]; exact wf_do hcut o5 k', fun u y hy => ?_, fun y a b hy => ?_⟩, e⟩
  · have b1 := o2 u a b
    by_cases ut : u = t
    · subst ut
      rw [uI_s]
      omega
    · rw [uI_n ut]
      by_cases us : u = s
      · subst us
        rw [uI_s]
        omega
      · rw [uI_n us]
        exact b1
  · rw [uI_n (by omega), uI_n (by omega)]
    exact o3 u a b
  · have b1 := o4 u a b
    by_cases ut : u = t
    · subst ut
      rw [uI_s]
      omega
    · rw [uI_n ut]
      by_cases us : u = s
      · subst us
        rw [uI_s]
        omega
      · rw [uI_n us]
        exact b1
  · rw [e] at hy
    have hxs : x ∈ stOf h p s := by
      rw [stOf_hd q1 q4, q5]
      exact List.mem_cons_self
    by_cases us : u = s
    · subst us
      rw [doM_s] at hy
      have hnd := o5.1 u
      rw [stOf_hd q1 q4, ← q5] at hnd hy
      have hne : y ≠ x := fun z => (List.nodup_cons.mp hnd).1 (by rw [← z]; exact hy)
      rw [uI_n hne, uI_n hne]
      refine o6 u y ?_
      rw [stOf_hd q1 q4]
      exact List.mem_cons_of_mem _ hy
    · by_cases ut : u = t
      · subst ut
        rw [doM_t (Ne.symm q3)] at hy
        rcases List.mem_cons.mp hy with z | z
        · rw [z, uI_s]
        · have hne : y ≠ x := fun z2 => q3 (o5.2.1 s u x hxs (by rw [← z2]; exact z))
          rw [uI_n hne, uI_n hne]
          exact o6 u y z
      · rw [doM_o us ut] at hy
        have hne : y ≠ x := fun z2 => us (o5.2.1 u s x (by rw [← z2]; exact hy) hxs)
        rw [uI_n hne, uI_n hne]
        exact o6 u y hy
  · rw [e]
    by_cases yx : y = x
    · rw [yx, uI_s, doM_t (Ne.symm q3)]
      exact List.mem_cons_self
    · rw [uI_n yx, uI_n yx] at hy ⊢
      have hm := o7 y a b hy
      by_cases us : so y = s
      · rw [us] at hm ⊢
        rw [doM_s]
        rw [stOf_hd q1 q4, ← q5] at hm ⊢
        rcases List.mem_cons.mp hm with z | z
        · exact absurd z yx
        · exact z
      · by_cases ut : so y = t
        · rw [ut] at hm ⊢
          rw [doM_t (Ne.symm q3)]
          exact List.mem_cons_of_mem _ hm
        · rw [doM_o us ut]
          exact hm
theorem yTop_hd {c : Int} {r h p so : Int → Int} {s : Int} (o : yOK c r h p so) (h0 : 0 ≤ s) (h1 : s < c) : (h s = 0 ∧ yTop c h p s = -1 ∧ (stOf h p s).head? = none) ∨ (0 < h s ∧ (stOf h p s).head? = some (yTop c h p s) ∧ 0 ≤ yTop c h p s ∧ yTop c h p s < 20) := by
  have hs : 0 ≤ s ∧ s < 4 := by have := o.1; omega
  have b1 := o.2.1 s hs.1 hs.2
  by_cases q : h s = 0
  · refine Or.inl ⟨q, by unfold yTop; rw [if_neg (by omega)], by rw [stOf_nil q]; rfl⟩
  · have e : yTop c h p s = p (s * 4 + h s - 1) := by unfold yTop; rw [if_pos (by omega)]
    have hm : p (s * 4 + h s - 1) ∈ stOf h p s := by
      rw [stOf_hd hs (by omega)]
      exact List.mem_cons_self
    have hr := o.2.2.2.2.1.2.2.1 s _ hm
    refine Or.inr ⟨by omega, ?_, by rw [e]; exact hr⟩
    rw [stOf_hd hs (by omega), e]
    rfl
/-- 45 is the answer where the move can be made -/
theorem why_ok {g : qHp} {c : Int} {r h p so : Int → Int} {x t v : Int} (o : yOK c r h p so) (hw : yWhyR g c r h p so x t v) : (v = 45 → okM c (cut4 r) (cGet (g 1 3) (g 2) 0) (pinB g) (stOf h p) (so x) t x ∧ (0 ≤ x ∧ x < 20)) ∧ (∀ s, okM c (cut4 r) (cGet (g 1 3) (g 2) 0) (pinB g) (stOf h p) s t x → v = 45) := by
  have hO := o
  obtain ⟨o1, o2, o3, o4, o5, o6, o7⟩ := o
  constructor
  · intro hv
    rcases hw with ⟨-, z⟩ | ⟨w1, w2, ⟨-, z⟩ | ⟨w3, ⟨-, z⟩ | ⟨w4, ⟨-, z⟩ | ⟨w5, ⟨w6, -⟩ | ⟨-, z⟩⟩⟩⟩⟩
    · omega
    · omega
    · omega
    · omega
    · have hx : 0 ≤ x ∧ x < 20 := by
        by_cases q : 0 ≤ x ∧ x < 20
        · exact q
        · exfalso
          unfold ySt at w1
          rw [if_neg q] at w1
          exact w1 rfl
      have es : ySt so x = so x := by unfold ySt; rw [if_pos hx]
      rw [es] at w1 w2 w4
      have hm := o7 x hx.1 hx.2 w1
      have hs := o5.2.2.2.2 _ x hm
      have ht : 0 ≤ t ∧ t < c := by omega
      have ht4 : 0 ≤ t ∧ t < 4 := by omega
      rcases yTop_hd hO hs.1 hs.2 with ⟨u1, u2, u3⟩ | ⟨u1, u2, u3⟩
      · omega
      · refine ⟨⟨hs.1, hs.2, ht.1, ht.2, w4, by rw [u2, w2], w3, ?_, fun y hy => ?_⟩, hx⟩
        · rw [stOf_len ht4 (o2 t ht4.1 ht4.2).1, cut4_in ht4]
          omega
        · rcases yTop_hd hO ht.1 ht.2 with ⟨v1, v2, v3⟩ | ⟨v1, v2, v3⟩
          · rw [v3] at hy
            cases hy
          · rw [v2] at hy
            have e : yTop c h p t = y := by simpa using hy
            rcases w6 with w6 | w6
            · omega
            · rw [← e]
              exact w6
    · omega
  · intro s k
    obtain ⟨q1, q2, q3, q4, q5, q6, q7, q8, q9⟩ := okM_in hO k
    obtain ⟨k1, k2, k3, k4, k5, k6, k7, k8, k9⟩ := k
    have es : ySt so x = s := by unfold ySt; rw [if_pos q9, q8]
    have et : yTop c h p s = x := by unfold yTop; rw [if_pos (by omega), q5]
    rcases hw with ⟨z1, -⟩ | ⟨w1, w2, ⟨z, -⟩ | ⟨w3, ⟨z, -⟩ | ⟨w4, ⟨z, -⟩ | ⟨w5, ⟨w6, z⟩ | ⟨w6, z⟩⟩⟩⟩⟩
    · rw [es] at z1
      omega
    · rw [k7] at z
      cases z
    · omega
    · omega
    · exact z
    · exfalso
      refine w6 ?_
      unfold yBears
      rcases yTop_hd hO k3 k4 with ⟨v1, v2, v3⟩ | ⟨v1, v2, v3⟩
      · exact Or.inl v2
      · exact Or.inr (k9 _ v2)
/-- how many boxes stand above x -/
theorem yOvr_ix {c : Int} {r h p so : Int → Int} {x : Int} (o : yOK c r h p so) (hx : 0 ≤ x ∧ x < 20) (hs : so x ≠ -1) : yOvr c h p so x = ((ixO x (stOf h p (so x)) : Nat) : Int) ∧ x ∈ stOf h p (so x) ∧ (0 ≤ so x ∧ so x < c) ∧ ixO x (stOf h p (so x)) < 4 := by
  obtain ⟨o1, o2, o3, o4, o5, o6, o7⟩ := o
  have hm := o7 x hx.1 hx.2 hs
  have hs2 := o5.2.2.2.2 _ x hm
  have hs4 : 0 ≤ so x ∧ so x < 4 := by omega
  have b1 := o2 _ hs4.1 hs4.2
  have es : ySt so x = so x := by unfold ySt; rw [if_pos hx]
  have eh : yHt c h (so x) = h (so x) := by unfold yHt; rw [if_pos hs2]
  have hnd := o5.1 (so x)
  have hat : ∀ k, 0 ≤ k → k < h (so x) → yAt c h p (so x) k = p (so x * 4 + k) := by
    intro k a b
    unfold yAt
    rw [eh, if_pos ⟨a, b⟩]
  have h1 := fstI_rng (fun k => decide (yAt c h p (so x) k = x)) (h (so x)).toNat 0
  have hu : yUnd c h p so x = fstI (fun k => decide (yAt c h p (so x) k = x)) (h (so x)).toNat 0 := by
    unfold yUnd
    rw [es, eh]
  have hlt : fstI (fun k => decide (yAt c h p (so x) k = x)) (h (so x)).toNat 0 < h (so x) := by
    rw [stOf_in hs4] at hm
    obtain ⟨k, k1, k2, k3⟩ := tlS_mem.mp hm
    by_cases q : fstI (fun k => decide (yAt c h p (so x) k = x)) (h (so x)).toNat 0 < h (so x)
    · exact q
    · exfalso
      have hmiss := fstI_miss (fun k => decide (yAt c h p (so x) k = x)) (h (so x)).toNat 0 k k1 (by omega)
      have : yAt c h p (so x) k = x := by rw [hat k k1 (by omega), k3]
      simp [this] at hmiss
  have hhit := fstI_hit (fun k => decide (yAt c h p (so x) k = x)) (h (so x)).toNat 0 (by omega)
  have hp : yAt c h p (so x) (fstI (fun k => decide (yAt c h p (so x) k = x)) (h (so x)).toNat 0) = x := by simpa using hhit
  rw [hat _ h1.1 hlt] at hp
  have hnd' := hnd
  rw [stOf_in hs4] at hnd'
  have hix := tlS_ix hnd' h1.1 (by omega) hp
  refine ⟨?_, hm, hs2, ?_⟩
  · unfold yOvr
    rw [es, if_neg hs, eh, hu, stOf_in hs4, hix]
    omega
  · rw [stOf_in hs4]
    omega
end
section
/-! the trial yard; what a shift leaves there; a begun plan's next ones and their weight -/
theorem yOK_eq {c : Int} {r h p so r' h' p' so' : Int → Int} (e1 : ∀ t, 0 ≤ t → t < 4 → r' t = r t) (e2 : ∀ t, 0 ≤ t → t < 4 → h' t = h t) (e3 : ∀ j, 0 ≤ j → j < 16 → p' j = p j) (e4 : ∀ x, 0 ≤ x → x < 20 → so' x = so x) (o : yOK c r h p so) : yOK c r' h' p' so' ∧ stOf h' p' = stOf h p := by
  obtain ⟨o1, o2, o3, o4, o5, o6, o7⟩ := o
  have e : stOf h' p' = stOf h p := stOf_eq e2 (fun s a b => (o2 s a b).2.1) e3
  refine ⟨⟨o1, fun s a b => by rw [e1 s a b, e2 s a b]; exact o2 s a b, fun s a b => by rw [e2 s (by omega) b]; exact o3 s a b, fun s a b => by rw [e2 s a (by omega), e1 s a (by omega)]; exact o4 s a b, by rw [e]; exact o5, fun s x hx => ?_, fun x a b hx => ?_⟩, e⟩
  · rw [e] at hx
    have := o5.2.2.1 s x hx
    rw [e4 x this.1 this.2]
    exact o6 s x hx
  · rw [e4 x a b] at hx ⊢
    rw [e]
    exact o7 x a b hx
/-- the trial yard stands as z, all else is as in g -/
def triA (g g' : qHp) (z : St) : Prop := g' 10 5 = g 5 5 ∧ cut4 (g' 11) = cut4 (g 6) ∧ yOK (g' 10 5) (g' 11) (g' 12) (g' 13) (g' 14) ∧ stOf (g' 12) (g' 13) = z ∧ ∀ k, k < 10 ∨ 15 ≤ k → g' k = g k
def sh10 (g : qHp) (f t : Int) : qHp := (qUp (qUp (qUp (qUp (qUp (qUp (qUp g 12 f ((g 12) f - 1)) 14 ((g 13) (f * 4 + (g 12) f - 1)) (-1)) 10 6 (w32 (g 10 6 - 1))) 13 (t * 4 + (g 12) t) ((g 13) (f * 4 + (g 12) f - 1))) 12 t ((g 12) t + 1)) 14 ((g 13) (f * 4 + (g 12) f - 1)) t) 10 6 (w32 (w32 (g 10 6 - 1) + 1)))
def cp10 (g : qHp) : qHp := (qUp (qUp (qCp (qCp (qCp (qCp g 6 11 4) 7 12 4) 8 13 16) 9 14 20) 10 5 (g 5 5)) 10 6 (g 5 6))
theorem sh10_rows (g : qHp) (f t : Int) : sh10 g f t 10 5 = g 10 5 ∧ sh10 g f t 11 = g 11 ∧ sh10 g f t 12 = uI (uI (g 12) f (g 12 f - 1)) t (g 12 t + 1) ∧ sh10 g f t 13 = uI (g 13) (t * 4 + g 12 t) (g 13 (f * 4 + g 12 f - 1)) ∧ sh10 g f t 14 = uI (uI (g 14) (g 13 (f * 4 + g 12 f - 1)) (-1)) (g 13 (f * 4 + g 12 f - 1)) t ∧ ∀ k, k < 10 ∨ 15 ≤ k → sh10 g f t k = g k := by
  unfold sh10
  refine ⟨?_, ?_, ?_, ?_, ?_, fun k hk => ?_⟩
  · rw [qUp_j (by decide), qUp_k (by decide), qUp_k (by decide), qUp_k (by decide), qUp_j (by decide), qUp_k (by decide), qUp_k (by decide)]
  · rw [qUp_row (by decide), qUp_row (by decide), qUp_row (by decide), qUp_row (by decide), qUp_row (by decide), qUp_row (by decide), qUp_row (by decide)]
  · rw [qUp_row (by decide), qUp_row (by decide), qUp_u, qUp_row (by decide), qUp_row (by decide), qUp_row (by decide), qUp_u]
  · rw [qUp_row (by decide), qUp_row (by decide), qUp_row (by decide), qUp_u, qUp_row (by decide), qUp_row (by decide), qUp_row (by decide)]
  · rw [qUp_row (by decide), qUp_u, qUp_row (by decide), qUp_row (by decide), qUp_row (by decide), qUp_u, qUp_row (by decide)]
  · rw [qUp_row (by omega), qUp_row (by omega), qUp_row (by omega), qUp_row (by omega), qUp_row (by omega), qUp_row (by omega), qUp_row (by omega)]
theorem sh10_tri {g g1 : qHp} {z : St} {w : Int → Int} {pn : Int → Bool} {s t x : Int} (T : triA g g1 z) (k : okM (g 5 5) (cut4 (g 6)) w pn z s t x) : (0 ≤ s ∧ s < g1 10 5 ∧ g1 12 s ≠ 0 ∧ s ≠ t) ∧ (0 ≤ t ∧ t < g1 10 5 ∧ g1 12 t < g1 11 t) ∧ g1 14 x = s ∧ (0 ≤ x ∧ x < 20) ∧ triA g (sh10 g1 s t) (doM z s t x) := by
  obtain ⟨t1, t2, t3, t4, t5⟩ := T
  subst t4
  rw [← t1, ← t2] at k
  obtain ⟨q1, q2, q3, q4, q5, q6, q7, q8, q9⟩ := okM_in t3 k
  have m := yOK_mv t3 k
  obtain ⟨k1, k2, k3, k4, -⟩ := k
  obtain ⟨r1, r2, r3, r4, r5, r6⟩ := sh10_rows g1 s t
  rw [← q5] at r4 r5
  refine ⟨⟨k1, k2, by omega, q3⟩, ⟨k3, k4, q6⟩, q8, q9, by rw [r1, t1], by rw [r2, t2], by rw [r1, r2, r3, r4, r5]; exact m.1, by rw [r3, r4]; exact m.2, fun k hk => by rw [r6 k hk, t5 k hk]⟩
theorem cp10_tri {g : qHp} (o : yOK (g 5 5) (g 6) (g 7) (g 8) (g 9)) : triA g (cp10 g) (stOf (g 7) (g 8)) := by
  have e0 : cp10 g 10 5 = g 5 5 := by
    unfold cp10
    rw [qUp_j (by decide), qUp_s]
  have e1 : ∀ t, 0 ≤ t → t < 4 → cp10 g 11 t = g 6 t := by
    intro t a b
    unfold cp10
    rw [qUp_k (by decide), qUp_k (by decide), qCp_row (by decide), qCp_row (by decide), qCp_row (by decide), qCp_in a b]
  have e2 : ∀ t, 0 ≤ t → t < 4 → cp10 g 12 t = g 7 t := by
    intro t a b
    unfold cp10
    rw [qUp_k (by decide), qUp_k (by decide), qCp_row (by decide), qCp_row (by decide), qCp_in a b, qCp_row (by decide)]
  have e3 : ∀ t, 0 ≤ t → t < 16 → cp10 g 13 t = g 8 t := by
    intro t a b
    unfold cp10
    rw [qUp_k (by decide), qUp_k (by decide), qCp_row (by decide), qCp_in a b, qCp_row (by decide), qCp_row (by decide)]
  have e4 : ∀ t, 0 ≤ t → t < 20 → cp10 g 14 t = g 9 t := by
    intro t a b
    unfold cp10
    rw [qUp_k (by decide), qUp_k (by decide), qCp_in a b, qCp_row (by decide), qCp_row (by decide), qCp_row (by decide)]
  have h := yOK_eq e1 e2 e3 e4 o
  refine ⟨e0, cut4_eq e1, by rw [e0]; exact h.1, h.2, fun k hk => ?_⟩
  unfold cp10
  rw [qUp_row (by omega), qUp_row (by omega), qCp_row (by omega), qCp_row (by omega), qCp_row (by omega), qCp_row (by omega)]
theorem pin_K {g g1 : qHp} (h : ∀ k, k < 10 → g1 k = g k) : pinB g1 = pinB g := by
  funext x
  unfold pinB
  rw [h 1 (by decide), h 3 (by decide)]
theorem why_K {g g1 : qHp} (h : ∀ k, k < 10 → g1 k = g k) : yWhyR g1 = yWhyR g := by
  funext c r h' p so x t v
  unfold yWhyR yBears
  rw [pin_K h, h 1 (by decide), h 2 (by decide)]
/-! the weights of a begun plan's next ones -/
def cst (e n hm s t : Int) : Int := if s = t then 0 else if s = hm then wN e (n - 1) else if t = hm then 0 else if e = 1 then wN 0 n else 0
def rwC (e n hm s : Int) : Nat → Int
  | 0 => 0
  | k + 1 => rwC e n hm s k + cst e n hm s k
def ttC (e n hm : Int) (c : Nat) : Nat → Int
  | 0 => 0
  | k + 1 => ttC e n hm c k + rwC e n hm k c
def ttOk (c hm e n : Nat) : Bool := decide (ttC e n hm c c ≤ wN e n - 1) && (List.range c).all (fun f => (List.range c).all (fun t => decide (ttC e n hm c f + rwC e n hm f (t + 1) ≤ wN e n - 1)))
theorem ttC_A : (List.range 5).all (fun c => (List.range 4).all (fun hm => (List.range 2).all (fun e => (List.range 3).all (fun n => ttOk c hm e (n + 1))))) = true := by decide +kernel
theorem ttC_N (c : Nat) (hc : c < 5) (hm : Nat) (hh : hm < 4) (e : Nat) (he : e < 2) (n : Nat) (hn : n < 4) (h1 : 1 ≤ n) : (ttC e n hm c c ≤ wN e n - 1) ∧ ∀ f : Nat, f < c → ∀ t : Nat, t < c → ttC e n hm c f + rwC e n hm f (t + 1) ≤ wN e n - 1 := by
  have a := List.all_eq_true.mp ttC_A c (List.mem_range.mpr hc)
  have a2 := List.all_eq_true.mp a hm (List.mem_range.mpr hh)
  have a3 := List.all_eq_true.mp a2 e (List.mem_range.mpr he)
  have a4 := List.all_eq_true.mp a3 (n - 1) (List.mem_range.mpr (by omega))
  rw [show n - 1 + 1 = n by omega] at a4
  unfold ttOk at a4
  rw [Bool.and_eq_true] at a4
  refine ⟨of_decide_eq_true a4.1, fun f hf t ht => ?_⟩
  have a5 := List.all_eq_true.mp a4.2 f (List.mem_range.mpr hf)
  exact of_decide_eq_true (List.all_eq_true.mp a5 t (List.mem_range.mpr ht))
theorem ttC_I {c hm e n : Int} (hc : 0 ≤ c ∧ c ≤ 4) (hh : 0 ≤ hm ∧ hm < 4) (he : 0 ≤ e ∧ e ≤ 1) (hn : 1 ≤ n ∧ n ≤ 3) : (ttC e n hm c.toNat c.toNat ≤ wN e n - 1) ∧ ∀ f t : Int, 0 ≤ f → f < c → 0 ≤ t → t < c → ttC e n hm c.toNat f.toNat + rwC e n hm f (t + 1).toNat ≤ wN e n - 1 := by
  obtain ⟨c, rfl⟩ : ∃ k : Nat, c = k := ⟨c.toNat, by omega⟩
  obtain ⟨hm, rfl⟩ : ∃ k : Nat, hm = k := ⟨hm.toNat, by omega⟩
  obtain ⟨e, rfl⟩ : ∃ k : Nat, e = k := ⟨e.toNat, by omega⟩
  obtain ⟨n, rfl⟩ : ∃ k : Nat, n = k := ⟨n.toNat, by omega⟩
  have h := ttC_N c (by omega) hm (by omega) e (by omega) n (by omega) (by omega)
  refine ⟨h.1, fun f t a b a2 b2 => ?_⟩
  obtain ⟨f, rfl⟩ : ∃ k : Nat, f = k := ⟨f.toNat, by omega⟩
  obtain ⟨t, rfl⟩ : ∃ k : Nat, t = k := ⟨t.toNat, by omega⟩
  exact h.2 f (by omega) t (by omega)
theorem cst_nn (e n hm s t : Int) : 0 ≤ cst e n hm s t := by
  have a := (wN_pos e (n - 1)).1
  have b := (wN_pos 0 n).1
  unfold cst
  repeat' split
  all_goals omega
theorem rwC_s {e n hm s t : Int} (h : 0 ≤ t) : rwC e n hm s (t + 1).toNat = rwC e n hm s t.toNat + cst e n hm s t := by
  have e1 : (t + 1).toNat = t.toNat + 1 := by omega
  have e2 : ((t.toNat : Nat) : Int) = t := by omega
  rw [e1]
  show rwC e n hm s t.toNat + cst e n hm s ((t.toNat : Nat) : Int) = _
  rw [e2]
theorem ttC_s {e n hm f c : Int} (h : 0 ≤ f) : ttC e n hm c.toNat (f + 1).toNat = ttC e n hm c.toNat f.toNat + rwC e n hm f c.toNat := by
  have e1 : (f + 1).toNat = f.toNat + 1 := by omega
  have e2 : ((f.toNat : Nat) : Int) = f := by omega
  rw [e1]
  show ttC e n hm c.toNat f.toNat + rwC e n hm ((f.toNat : Nat) : Int) c.toNat = _
  rw [e2]
section KIDS
variable {c : Int} {r w : Int → Int} {pn : Int → Bool} {b lim : Int} {L : List Int} {z : St} {n : Nat} {s t x hm : Int}
theorem kid_need (hz : wfS c z) (hb : b ∈ z hm) (hn : ixO b (z hm) = n) (h1 : n ≠ 0) (o : okM c r w pn z s t x) : x ≠ b ∧ ∃ n' : Nat, ovR (doM z s t x) b n' ∧ 1 + (n' : Int) = n + (if s = hm then 0 else if t = hm then 2 else 1) := by
  have hx : x ≠ b := by
    intro q
    obtain ⟨o1, o2, o3, o4, o5, o6, -⟩ := o
    obtain ⟨l, hl⟩ := hd_cons o6
    have e : s = hm := hz.2.1 s hm b (by rw [hl, q]; exact List.mem_cons_self) hb
    rw [← e, hl, q] at hn
    unfold ixO at hn
    rw [if_pos rfl] at hn
    exact h1 hn.symm
  refine ⟨hx, ?_⟩
  rcases ov_do hx o hb hn with ⟨a1, a2, q1, q2⟩ | ⟨a1, a2, q1, q2⟩ | ⟨a1, a2, q1, q2⟩
  · exact ⟨_, ⟨hm, q1, q2⟩, by rw [if_pos a1]; omega⟩
  · exact ⟨_, ⟨hm, q1, q2⟩, by rw [if_neg a1, if_pos a2]; omega⟩
  · exact ⟨_, ⟨hm, q1, q2⟩, by rw [if_neg a1, if_neg a2]; omega⟩
theorem kid_u (hr : ∀ t, r t ≤ 4) (hz : wfS c z) {x' B B' : Int} (h : isKid c r w pn b lim L z s t x B) (h' : isKid c r w pn b lim L z s t x' B') : B' = B := by
  obtain ⟨o, n1, a1, a2, a3⟩ := h
  obtain ⟨o', n2, b1, b2, b3⟩ := h'
  have e : x' = x := by
    have p := o.2.2.2.2.2.1
    have q := o'.2.2.2.2.2.1
    rw [p] at q
    simpa using q.symm
  subst e
  have en := ov_u (wf_do hr hz o) a1 b1
  subst en
  rw [a3, b3]
theorem gone_key {nd nd2 x t : Int} (hd : digs L) (hl : L.length ≤ 3) : nd2 * 2147483648 + (keyN nd L % 2147483648 - keyN nd L % 8) + (x * 4 + t) * bSh (keyN nd L % 8) + (keyN nd L % 8 + 1) = keyN nd2 (L ++ [4 * x + t]) := by
  have k1 := key_need (nd := nd) hd (by omega)
  have k2 := key_low (nd := nd) hd hl
  rw [k2.1, k1.2]
  show _ = nd2 * 2147483648 + mC (L ++ [4 * x + t]) 0 + (L ++ [4 * x + t]).length
  rw [mC_snoc hl, List.length_append, show x * 4 + t = 4 * x + t by omega]
  push_cast
  simp only [List.length_cons, List.length_nil]
  omega
theorem kid_w {nd : Int} (hd : digs L) (hl : L.length ≤ 3) (hm2 : 0 ≤ 4 * x + t ∧ 4 * x + t < 80) : wB lim (keyN nd (L ++ [4 * x + t])) = wN (lim - nd) (nd - (L.length + 1)) := by
  have hd2 : digs (L ++ [4 * x + t]) := by
    intro m hm
    rcases List.mem_append.mp hm with q | q
    · exact hd m q
    · have : m = 4 * x + t := by simpa using q
      rw [this]
      exact hm2
  have k := key_need (nd := nd) hd2 (by rw [List.length_append]; simp only [List.length_cons, List.length_nil]; omega)
  unfold wB
  rw [k.1, k.2, List.length_append]
  rfl
end KIDS
end
