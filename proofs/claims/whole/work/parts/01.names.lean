-- ===== PART A: goes FIRST, ahead of the names: the tables' words, and 'selects' of the private methods out of them =====
/-- a private method of a class that the tables say can be made, by its rows of tables_1 -/
def lw_okq (q : MethodName × Nat) : Prop := (q.1.cls ≠ "java/lang/invoke/MethodHandle" ∧ q.1.cls ≠ "java/lang/invoke/VarHandle") ∧ Cond.instantiable q.1.cls q.2 ∈ tables_1 ∧ Cond.privateMethod q.1 ∈ tables_1 ∧ Cond.instanceMethod q.1 ∈ tables_1
theorem lw_p0 : lw_okq (⟨"WoundEggs", "reckon", "(LWoundEggs$State;)V"⟩, 9) := ⟨⟨by decide +kernel, by decide +kernel⟩, List.mem_of_getElem? (i := 19) (by decide +kernel), List.mem_of_getElem? (i := 233) (by decide +kernel), List.mem_of_getElem? (i := 234) (by decide +kernel)⟩
theorem lw_p1 : lw_okq (⟨"WoundEggs", "holding", "(LWoundEggs$State;)LWoundEggs$Store;"⟩, 9) := ⟨⟨by decide +kernel, by decide +kernel⟩, List.mem_of_getElem? (i := 19) (by decide +kernel), List.mem_of_getElem? (i := 237) (by decide +kernel), List.mem_of_getElem? (i := 238) (by decide +kernel)⟩
theorem lw_p2 : lw_okq (⟨"WoundEggs$Store", "holdsFor", "([IIII)Z"⟩, 6) := ⟨⟨by decide +kernel, by decide +kernel⟩, List.mem_of_getElem? (i := 137) (by decide +kernel), List.mem_of_getElem? (i := 253) (by decide +kernel), List.mem_of_getElem? (i := 254) (by decide +kernel)⟩
theorem lw_p3 : lw_okq (⟨"WoundEggs$Store", "readClause", "(LWoundEggs$Text;)Z"⟩, 6) := ⟨⟨by decide +kernel, by decide +kernel⟩, List.mem_of_getElem? (i := 137) (by decide +kernel), List.mem_of_getElem? (i := 309) (by decide +kernel), List.mem_of_getElem? (i := 310) (by decide +kernel)⟩
theorem lw_p4 : lw_okq (⟨"WoundEggs$Store", "readAny", "(LWoundEggs$Text;I)Z"⟩, 6) := ⟨⟨by decide +kernel, by decide +kernel⟩, List.mem_of_getElem? (i := 137) (by decide +kernel), List.mem_of_getElem? (i := 444) (by decide +kernel), List.mem_of_getElem? (i := 445) (by decide +kernel)⟩
theorem lw_p5 : lw_okq (⟨"WoundEggs$Store", "readOne", "(LWoundEggs$Text;I)Z"⟩, 6) := ⟨⟨by decide +kernel, by decide +kernel⟩, List.mem_of_getElem? (i := 137) (by decide +kernel), List.mem_of_getElem? (i := 448) (by decide +kernel), List.mem_of_getElem? (i := 449) (by decide +kernel)⟩
theorem lw_p6 : lw_okq (⟨"WoundEggs$Store", "readTest", "(LWoundEggs$Text;)Z"⟩, 6) := ⟨⟨by decide +kernel, by decide +kernel⟩, List.mem_of_getElem? (i := 137) (by decide +kernel), List.mem_of_getElem? (i := 452) (by decide +kernel), List.mem_of_getElem? (i := 453) (by decide +kernel)⟩
theorem lw_p7 : lw_okq (⟨"WoundEggs$Store", "keep", "(I)V"⟩, 6) := ⟨⟨by decide +kernel, by decide +kernel⟩, List.mem_of_getElem? (i := 137) (by decide +kernel), List.mem_of_getElem? (i := 459) (by decide +kernel), List.mem_of_getElem? (i := 460) (by decide +kernel)⟩
theorem lw_p8 : lw_okq (⟨"WoundEggs", "tryDays", "(I)V"⟩, 9) := ⟨⟨by decide +kernel, by decide +kernel⟩, List.mem_of_getElem? (i := 19) (by decide +kernel), List.mem_of_getElem? (i := 504) (by decide +kernel), List.mem_of_getElem? (i := 505) (by decide +kernel)⟩
theorem lw_p9 : lw_okq (⟨"WoundEggs", "fitting", "(IIIIZ)I"⟩, 9) := ⟨⟨by decide +kernel, by decide +kernel⟩, List.mem_of_getElem? (i := 19) (by decide +kernel), List.mem_of_getElem? (i := 581) (by decide +kernel), List.mem_of_getElem? (i := 582) (by decide +kernel)⟩
theorem lw_p10 : lw_okq (⟨"WoundEggs$State", "quietDays", "(JIJJ)J"⟩, 8) := ⟨⟨by decide +kernel, by decide +kernel⟩, List.mem_of_getElem? (i := 27) (by decide +kernel), List.mem_of_getElem? (i := 598) (by decide +kernel), List.mem_of_getElem? (i := 599) (by decide +kernel)⟩
theorem lw_p11 : lw_okq (⟨"WoundEggs", "tryRow", "([I)V"⟩, 9) := ⟨⟨by decide +kernel, by decide +kernel⟩, List.mem_of_getElem? (i := 19) (by decide +kernel), List.mem_of_getElem? (i := 619) (by decide +kernel), List.mem_of_getElem? (i := 620) (by decide +kernel)⟩
theorem lw_p12 : lw_okq (⟨"WoundEggs$Acts", "own", "(III)I"⟩, 5) := ⟨⟨by decide +kernel, by decide +kernel⟩, List.mem_of_getElem? (i := 112) (by decide +kernel), List.mem_of_getElem? (i := 653) (by decide +kernel), List.mem_of_getElem? (i := 654) (by decide +kernel)⟩
theorem lw_p13 : lw_okq (⟨"WoundEggs$Acts", "run", "(IIII)I"⟩, 5) := ⟨⟨by decide +kernel, by decide +kernel⟩, List.mem_of_getElem? (i := 112) (by decide +kernel), List.mem_of_getElem? (i := 657) (by decide +kernel), List.mem_of_getElem? (i := 658) (by decide +kernel)⟩
theorem lw_p14 : lw_okq (⟨"WoundEggs$Acts", "begin", "(I)V"⟩, 5) := ⟨⟨by decide +kernel, by decide +kernel⟩, List.mem_of_getElem? (i := 112) (by decide +kernel), List.mem_of_getElem? (i := 670) (by decide +kernel), List.mem_of_getElem? (i := 671) (by decide +kernel)⟩
theorem lw_p15 : lw_okq (⟨"WoundEggsModel", "isOne", "(I)Z"⟩, 45) := ⟨⟨by decide +kernel, by decide +kernel⟩, List.mem_of_getElem? (i := 725) (by decide +kernel), List.mem_of_getElem? (i := 879) (by decide +kernel), List.mem_of_getElem? (i := 880) (by decide +kernel)⟩
def lw_privs_1 : List (MethodName × Nat) := [(⟨"WoundEggs", "reckon", "(LWoundEggs$State;)V"⟩, 9), (⟨"WoundEggs", "holding", "(LWoundEggs$State;)LWoundEggs$Store;"⟩, 9), (⟨"WoundEggs$Store", "holdsFor", "([IIII)Z"⟩, 6), (⟨"WoundEggs$Store", "readClause", "(LWoundEggs$Text;)Z"⟩, 6), (⟨"WoundEggs$Store", "readAny", "(LWoundEggs$Text;I)Z"⟩, 6), (⟨"WoundEggs$Store", "readOne", "(LWoundEggs$Text;I)Z"⟩, 6), (⟨"WoundEggs$Store", "readTest", "(LWoundEggs$Text;)Z"⟩, 6), (⟨"WoundEggs$Store", "keep", "(I)V"⟩, 6), (⟨"WoundEggs", "tryDays", "(I)V"⟩, 9), (⟨"WoundEggs", "fitting", "(IIIIZ)I"⟩, 9), (⟨"WoundEggs$State", "quietDays", "(JIJJ)J"⟩, 8), (⟨"WoundEggs", "tryRow", "([I)V"⟩, 9), (⟨"WoundEggs$Acts", "own", "(III)I"⟩, 5), (⟨"WoundEggs$Acts", "run", "(IIII)I"⟩, 5), (⟨"WoundEggs$Acts", "begin", "(I)V"⟩, 5), (⟨"WoundEggsModel", "isOne", "(I)Z"⟩, 45)]
theorem lw_r1 : ∀ q ∈ lw_privs_1, lw_okq q := List.forall_mem_cons.mpr ⟨lw_p0, List.forall_mem_cons.mpr ⟨lw_p1, List.forall_mem_cons.mpr ⟨lw_p2, List.forall_mem_cons.mpr ⟨lw_p3, List.forall_mem_cons.mpr ⟨lw_p4, List.forall_mem_cons.mpr ⟨lw_p5, List.forall_mem_cons.mpr ⟨lw_p6, List.forall_mem_cons.mpr ⟨lw_p7, List.forall_mem_cons.mpr ⟨lw_p8, List.forall_mem_cons.mpr ⟨lw_p9, List.forall_mem_cons.mpr ⟨lw_p10, List.forall_mem_cons.mpr ⟨lw_p11, List.forall_mem_cons.mpr ⟨lw_p12, List.forall_mem_cons.mpr ⟨lw_p13, List.forall_mem_cons.mpr ⟨lw_p14, List.forall_mem_cons.mpr ⟨lw_p15, fun _ h => absurd h List.not_mem_nil⟩⟩⟩⟩⟩⟩⟩⟩⟩⟩⟩⟩⟩⟩⟩⟩
theorem lw_p16 : lw_okq (⟨"WoundEggsModel", "turn", "(I)I"⟩, 45) := ⟨⟨by decide +kernel, by decide +kernel⟩, List.mem_of_getElem? (i := 725) (by decide +kernel), List.mem_of_getElem? (i := 883) (by decide +kernel), List.mem_of_getElem? (i := 884) (by decide +kernel)⟩
theorem lw_p17 : lw_okq (⟨"WoundEggsModel", "rest", "(I)I"⟩, 45) := ⟨⟨by decide +kernel, by decide +kernel⟩, List.mem_of_getElem? (i := 725) (by decide +kernel), List.mem_of_getElem? (i := 887) (by decide +kernel), List.mem_of_getElem? (i := 888) (by decide +kernel)⟩
theorem lw_p18 : lw_okq (⟨"WoundEggsModel", "sum", "(I)I"⟩, 45) := ⟨⟨by decide +kernel, by decide +kernel⟩, List.mem_of_getElem? (i := 725) (by decide +kernel), List.mem_of_getElem? (i := 891) (by decide +kernel), List.mem_of_getElem? (i := 892) (by decide +kernel)⟩
theorem lw_p19 : lw_okq (⟨"WoundEggsModel", "allBy", "()I"⟩, 45) := ⟨⟨by decide +kernel, by decide +kernel⟩, List.mem_of_getElem? (i := 725) (by decide +kernel), List.mem_of_getElem? (i := 895) (by decide +kernel), List.mem_of_getElem? (i := 896) (by decide +kernel)⟩
theorem lw_p20 : lw_okq (⟨"WoundEggsModel", "isTrue", "(II)Z"⟩, 45) := ⟨⟨by decide +kernel, by decide +kernel⟩, List.mem_of_getElem? (i := 725) (by decide +kernel), List.mem_of_getElem? (i := 899) (by decide +kernel), List.mem_of_getElem? (i := 900) (by decide +kernel)⟩
theorem lw_p21 : lw_okq (⟨"WoundEggsModel", "letterOf", "(II)I"⟩, 45) := ⟨⟨by decide +kernel, by decide +kernel⟩, List.mem_of_getElem? (i := 725) (by decide +kernel), List.mem_of_getElem? (i := 903) (by decide +kernel), List.mem_of_getElem? (i := 904) (by decide +kernel)⟩
theorem lw_p22 : lw_okq (⟨"WoundEggsModel", "inDays", "(I)I"⟩, 45) := ⟨⟨by decide +kernel, by decide +kernel⟩, List.mem_of_getElem? (i := 725) (by decide +kernel), List.mem_of_getElem? (i := 910) (by decide +kernel), List.mem_of_getElem? (i := 911) (by decide +kernel)⟩
theorem lw_p23 : lw_okq (⟨"WoundEggsModel", "isClause", "(I)Z"⟩, 45) := ⟨⟨by decide +kernel, by decide +kernel⟩, List.mem_of_getElem? (i := 725) (by decide +kernel), List.mem_of_getElem? (i := 938) (by decide +kernel), List.mem_of_getElem? (i := 939) (by decide +kernel)⟩
theorem lw_p24 : lw_okq (⟨"WoundEggsModel", "isAll", "(Ljava/lang/String;)Z"⟩, 45) := ⟨⟨by decide +kernel, by decide +kernel⟩, List.mem_of_getElem? (i := 725) (by decide +kernel), List.mem_of_getElem? (i := 943) (by decide +kernel), List.mem_of_getElem? (i := 944) (by decide +kernel)⟩
theorem lw_p25 : lw_okq (⟨"WoundEggsModel", "is", "(I)Z"⟩, 45) := ⟨⟨by decide +kernel, by decide +kernel⟩, List.mem_of_getElem? (i := 725) (by decide +kernel), List.mem_of_getElem? (i := 949) (by decide +kernel), List.mem_of_getElem? (i := 950) (by decide +kernel)⟩
theorem lw_p26 : lw_okq (⟨"WoundEggsModel", "isNumber", "()Z"⟩, 45) := ⟨⟨by decide +kernel, by decide +kernel⟩, List.mem_of_getElem? (i := 725) (by decide +kernel), List.mem_of_getElem? (i := 955) (by decide +kernel), List.mem_of_getElem? (i := 956) (by decide +kernel)⟩
theorem lw_p27 : lw_okq (⟨"WoundEggsModel", "isDigit", "()Z"⟩, 45) := ⟨⟨by decide +kernel, by decide +kernel⟩, List.mem_of_getElem? (i := 725) (by decide +kernel), List.mem_of_getElem? (i := 959) (by decide +kernel), List.mem_of_getElem? (i := 960) (by decide +kernel)⟩
theorem lw_p28 : lw_okq (⟨"WoundEggsModel", "isE", "()Z"⟩, 45) := ⟨⟨by decide +kernel, by decide +kernel⟩, List.mem_of_getElem? (i := 725) (by decide +kernel), List.mem_of_getElem? (i := 963) (by decide +kernel), List.mem_of_getElem? (i := 964) (by decide +kernel)⟩
theorem lw_p29 : lw_okq (⟨"WoundEggsModel", "isT", "()Z"⟩, 45) := ⟨⟨by decide +kernel, by decide +kernel⟩, List.mem_of_getElem? (i := 725) (by decide +kernel), List.mem_of_getElem? (i := 967) (by decide +kernel), List.mem_of_getElem? (i := 968) (by decide +kernel)⟩
theorem lw_p30 : lw_okq (⟨"WoundEggsModel", "isF", "()Z"⟩, 45) := ⟨⟨by decide +kernel, by decide +kernel⟩, List.mem_of_getElem? (i := 725) (by decide +kernel), List.mem_of_getElem? (i := 971) (by decide +kernel), List.mem_of_getElem? (i := 972) (by decide +kernel)⟩
theorem lw_p31 : lw_okq (⟨"WoundEggsModel", "isOpened", "(I)Z"⟩, 45) := ⟨⟨by decide +kernel, by decide +kernel⟩, List.mem_of_getElem? (i := 725) (by decide +kernel), List.mem_of_getElem? (i := 975) (by decide +kernel), List.mem_of_getElem? (i := 976) (by decide +kernel)⟩
def lw_privs_2 : List (MethodName × Nat) := [(⟨"WoundEggsModel", "turn", "(I)I"⟩, 45), (⟨"WoundEggsModel", "rest", "(I)I"⟩, 45), (⟨"WoundEggsModel", "sum", "(I)I"⟩, 45), (⟨"WoundEggsModel", "allBy", "()I"⟩, 45), (⟨"WoundEggsModel", "isTrue", "(II)Z"⟩, 45), (⟨"WoundEggsModel", "letterOf", "(II)I"⟩, 45), (⟨"WoundEggsModel", "inDays", "(I)I"⟩, 45), (⟨"WoundEggsModel", "isClause", "(I)Z"⟩, 45), (⟨"WoundEggsModel", "isAll", "(Ljava/lang/String;)Z"⟩, 45), (⟨"WoundEggsModel", "is", "(I)Z"⟩, 45), (⟨"WoundEggsModel", "isNumber", "()Z"⟩, 45), (⟨"WoundEggsModel", "isDigit", "()Z"⟩, 45), (⟨"WoundEggsModel", "isE", "()Z"⟩, 45), (⟨"WoundEggsModel", "isT", "()Z"⟩, 45), (⟨"WoundEggsModel", "isF", "()Z"⟩, 45), (⟨"WoundEggsModel", "isOpened", "(I)Z"⟩, 45)]
theorem lw_r2 : ∀ q ∈ lw_privs_2, lw_okq q := List.forall_mem_cons.mpr ⟨lw_p16, List.forall_mem_cons.mpr ⟨lw_p17, List.forall_mem_cons.mpr ⟨lw_p18, List.forall_mem_cons.mpr ⟨lw_p19, List.forall_mem_cons.mpr ⟨lw_p20, List.forall_mem_cons.mpr ⟨lw_p21, List.forall_mem_cons.mpr ⟨lw_p22, List.forall_mem_cons.mpr ⟨lw_p23, List.forall_mem_cons.mpr ⟨lw_p24, List.forall_mem_cons.mpr ⟨lw_p25, List.forall_mem_cons.mpr ⟨lw_p26, List.forall_mem_cons.mpr ⟨lw_p27, List.forall_mem_cons.mpr ⟨lw_p28, List.forall_mem_cons.mpr ⟨lw_p29, List.forall_mem_cons.mpr ⟨lw_p30, List.forall_mem_cons.mpr ⟨lw_p31, fun _ h => absurd h List.not_mem_nil⟩⟩⟩⟩⟩⟩⟩⟩⟩⟩⟩⟩⟩⟩⟩⟩
theorem lw_p32 : lw_okq (⟨"WoundEggsModel", "codes", "(I)Z"⟩, 45) := ⟨⟨by decide +kernel, by decide +kernel⟩, List.mem_of_getElem? (i := 725) (by decide +kernel), List.mem_of_getElem? (i := 979) (by decide +kernel), List.mem_of_getElem? (i := 980) (by decide +kernel)⟩
theorem lw_p33 : lw_okq (⟨"WoundEggsModel", "isTest", "()Z"⟩, 45) := ⟨⟨by decide +kernel, by decide +kernel⟩, List.mem_of_getElem? (i := 725) (by decide +kernel), List.mem_of_getElem? (i := 983) (by decide +kernel), List.mem_of_getElem? (i := 984) (by decide +kernel)⟩
theorem lw_p34 : lw_okq (⟨"WoundEggsModel", "goOff", "(I)I"⟩, 45) := ⟨⟨by decide +kernel, by decide +kernel⟩, List.mem_of_getElem? (i := 725) (by decide +kernel), List.mem_of_getElem? (i := 994) (by decide +kernel), List.mem_of_getElem? (i := 995) (by decide +kernel)⟩
theorem lw_p35 : lw_okq (⟨"WoundEggsModel", "goesOff", "(II)Z"⟩, 45) := ⟨⟨by decide +kernel, by decide +kernel⟩, List.mem_of_getElem? (i := 725) (by decide +kernel), List.mem_of_getElem? (i := 998) (by decide +kernel), List.mem_of_getElem? (i := 999) (by decide +kernel)⟩
theorem lw_p36 : lw_okq (⟨"WoundEggsModel", "isDay", "(II)Z"⟩, 45) := ⟨⟨by decide +kernel, by decide +kernel⟩, List.mem_of_getElem? (i := 725) (by decide +kernel), List.mem_of_getElem? (i := 1002) (by decide +kernel), List.mem_of_getElem? (i := 1003) (by decide +kernel)⟩
theorem lw_p37 : lw_okq (⟨"WoundEggsModel", "quiet", "()I"⟩, 45) := ⟨⟨by decide +kernel, by decide +kernel⟩, List.mem_of_getElem? (i := 725) (by decide +kernel), List.mem_of_getElem? (i := 1006) (by decide +kernel), List.mem_of_getElem? (i := 1007) (by decide +kernel)⟩
theorem lw_p38 : lw_okq (⟨"WoundEggsModel", "allWent", "()I"⟩, 45) := ⟨⟨by decide +kernel, by decide +kernel⟩, List.mem_of_getElem? (i := 725) (by decide +kernel), List.mem_of_getElem? (i := 1010) (by decide +kernel), List.mem_of_getElem? (i := 1011) (by decide +kernel)⟩
theorem lw_p39 : lw_okq (⟨"WoundEggsModel", "allMissed", "()I"⟩, 45) := ⟨⟨by decide +kernel, by decide +kernel⟩, List.mem_of_getElem? (i := 725) (by decide +kernel), List.mem_of_getElem? (i := 1014) (by decide +kernel), List.mem_of_getElem? (i := 1015) (by decide +kernel)⟩
theorem lw_p40 : lw_okq (⟨"WoundEggsModel", "goesDay", "()V"⟩, 45) := ⟨⟨by decide +kernel, by decide +kernel⟩, List.mem_of_getElem? (i := 725) (by decide +kernel), List.mem_of_getElem? (i := 1023) (by decide +kernel), List.mem_of_getElem? (i := 1024) (by decide +kernel)⟩
theorem lw_p41 : lw_okq (⟨"WoundEggsModel", "isHeard", "()Z"⟩, 45) := ⟨⟨by decide +kernel, by decide +kernel⟩, List.mem_of_getElem? (i := 725) (by decide +kernel), List.mem_of_getElem? (i := 1027) (by decide +kernel), List.mem_of_getElem? (i := 1028) (by decide +kernel)⟩
theorem lw_p42 : lw_okq (⟨"WoundEggsModel", "keep", "([I)V"⟩, 45) := ⟨⟨by decide +kernel, by decide +kernel⟩, List.mem_of_getElem? (i := 725) (by decide +kernel), List.mem_of_getElem? (i := 1036) (by decide +kernel), List.mem_of_getElem? (i := 1037) (by decide +kernel)⟩
theorem lw_p43 : lw_okq (⟨"WoundEggsModel", "again", "([I)V"⟩, 45) := ⟨⟨by decide +kernel, by decide +kernel⟩, List.mem_of_getElem? (i := 725) (by decide +kernel), List.mem_of_getElem? (i := 1040) (by decide +kernel), List.mem_of_getElem? (i := 1041) (by decide +kernel)⟩
theorem lw_p44 : lw_okq (⟨"WoundEggsModel", "first", "(I)J"⟩, 45) := ⟨⟨by decide +kernel, by decide +kernel⟩, List.mem_of_getElem? (i := 725) (by decide +kernel), List.mem_of_getElem? (i := 1054) (by decide +kernel), List.mem_of_getElem? (i := 1055) (by decide +kernel)⟩
theorem lw_p45 : lw_okq (⟨"WoundEggsModel", "common", "(I)J"⟩, 45) := ⟨⟨by decide +kernel, by decide +kernel⟩, List.mem_of_getElem? (i := 725) (by decide +kernel), List.mem_of_getElem? (i := 1066) (by decide +kernel), List.mem_of_getElem? (i := 1067) (by decide +kernel)⟩
theorem lw_p46 : lw_okq (⟨"WoundEggsModel", "isAllSo", "(I)Z"⟩, 45) := ⟨⟨by decide +kernel, by decide +kernel⟩, List.mem_of_getElem? (i := 725) (by decide +kernel), List.mem_of_getElem? (i := 1083) (by decide +kernel), List.mem_of_getElem? (i := 1084) (by decide +kernel)⟩
theorem lw_p47 : lw_okq (⟨"WoundEggsModel", "ticks", "(III)I"⟩, 45) := ⟨⟨by decide +kernel, by decide +kernel⟩, List.mem_of_getElem? (i := 725) (by decide +kernel), List.mem_of_getElem? (i := 1130) (by decide +kernel), List.mem_of_getElem? (i := 1131) (by decide +kernel)⟩
def lw_privs_3 : List (MethodName × Nat) := [(⟨"WoundEggsModel", "codes", "(I)Z"⟩, 45), (⟨"WoundEggsModel", "isTest", "()Z"⟩, 45), (⟨"WoundEggsModel", "goOff", "(I)I"⟩, 45), (⟨"WoundEggsModel", "goesOff", "(II)Z"⟩, 45), (⟨"WoundEggsModel", "isDay", "(II)Z"⟩, 45), (⟨"WoundEggsModel", "quiet", "()I"⟩, 45), (⟨"WoundEggsModel", "allWent", "()I"⟩, 45), (⟨"WoundEggsModel", "allMissed", "()I"⟩, 45), (⟨"WoundEggsModel", "goesDay", "()V"⟩, 45), (⟨"WoundEggsModel", "isHeard", "()Z"⟩, 45), (⟨"WoundEggsModel", "keep", "([I)V"⟩, 45), (⟨"WoundEggsModel", "again", "([I)V"⟩, 45), (⟨"WoundEggsModel", "first", "(I)J"⟩, 45), (⟨"WoundEggsModel", "common", "(I)J"⟩, 45), (⟨"WoundEggsModel", "isAllSo", "(I)Z"⟩, 45), (⟨"WoundEggsModel", "ticks", "(III)I"⟩, 45)]
theorem lw_r3 : ∀ q ∈ lw_privs_3, lw_okq q := List.forall_mem_cons.mpr ⟨lw_p32, List.forall_mem_cons.mpr ⟨lw_p33, List.forall_mem_cons.mpr ⟨lw_p34, List.forall_mem_cons.mpr ⟨lw_p35, List.forall_mem_cons.mpr ⟨lw_p36, List.forall_mem_cons.mpr ⟨lw_p37, List.forall_mem_cons.mpr ⟨lw_p38, List.forall_mem_cons.mpr ⟨lw_p39, List.forall_mem_cons.mpr ⟨lw_p40, List.forall_mem_cons.mpr ⟨lw_p41, List.forall_mem_cons.mpr ⟨lw_p42, List.forall_mem_cons.mpr ⟨lw_p43, List.forall_mem_cons.mpr ⟨lw_p44, List.forall_mem_cons.mpr ⟨lw_p45, List.forall_mem_cons.mpr ⟨lw_p46, List.forall_mem_cons.mpr ⟨lw_p47, fun _ h => absurd h List.not_mem_nil⟩⟩⟩⟩⟩⟩⟩⟩⟩⟩⟩⟩⟩⟩⟩⟩
theorem lw_p48 : lw_okq (⟨"WoundEggsModel", "ran", "(I)V"⟩, 45) := ⟨⟨by decide +kernel, by decide +kernel⟩, List.mem_of_getElem? (i := 725) (by decide +kernel), List.mem_of_getElem? (i := 1134) (by decide +kernel), List.mem_of_getElem? (i := 1135) (by decide +kernel)⟩
theorem lw_p49 : lw_okq (⟨"WoundEggsModel", "stirs", "(III)I"⟩, 45) := ⟨⟨by decide +kernel, by decide +kernel⟩, List.mem_of_getElem? (i := 725) (by decide +kernel), List.mem_of_getElem? (i := 1141) (by decide +kernel), List.mem_of_getElem? (i := 1142) (by decide +kernel)⟩
theorem lw_p50 : lw_okq (⟨"WoundEggsModel", "tells", "(III)I"⟩, 45) := ⟨⟨by decide +kernel, by decide +kernel⟩, List.mem_of_getElem? (i := 725) (by decide +kernel), List.mem_of_getElem? (i := 1145) (by decide +kernel), List.mem_of_getElem? (i := 1146) (by decide +kernel)⟩
def lw_privs_4 : List (MethodName × Nat) := [(⟨"WoundEggsModel", "ran", "(I)V"⟩, 45), (⟨"WoundEggsModel", "stirs", "(III)I"⟩, 45), (⟨"WoundEggsModel", "tells", "(III)I"⟩, 45)]
theorem lw_r4 : ∀ q ∈ lw_privs_4, lw_okq q := List.forall_mem_cons.mpr ⟨lw_p48, List.forall_mem_cons.mpr ⟨lw_p49, List.forall_mem_cons.mpr ⟨lw_p50, fun _ h => absurd h List.not_mem_nil⟩⟩⟩
def lw_privs : List (MethodName × Nat) := lw_privs_1 ++ (lw_privs_2 ++ (lw_privs_3 ++ (lw_privs_4)))
def lw_tbl : List Cond := k2_sels lw_privs ++ tables_1
theorem lw_privs_ok : ∀ q ∈ lw_privs, lw_okq q := by
  show ∀ q ∈ lw_privs_1 ++ (lw_privs_2 ++ (lw_privs_3 ++ (lw_privs_4))), lw_okq q
  exact List.forall_mem_append.mpr ⟨lw_r1, List.forall_mem_append.mpr ⟨lw_r2, List.forall_mem_append.mpr ⟨lw_r3, lw_r4⟩⟩⟩
-- ===== end of PART A; then your names; then what follows =====
def RX0 : String := "WoundEggs$Acts"
def TX0 : u_T := fun k => match k with
  | 0 => ("WoundEggs$Acts", "bodies", "[I", true)
  | 1 => ("WoundEggs$Acts", "ran", "I", false)
  | 2 => ("WoundEggs$Acts", "kind", "I", false)
  | 3 => ("WoundEggs$Acts", "v", "I", false)
  | _ => ("WoundEggs$Acts", "number", "I", false)
def tyX0 : Nat → FieldType := fun k => match k with
  | 0 => .array .int
  | 1 => .int
  | 2 => .int
  | 3 => .int
  | _ => .int
abbrev wsX00 : List Cond := u_ws RX0 TX0 5
theorem nmX0 : ∀ a, a < 5 → ∀ b, b < 5 → a ≠ b → (TX0 a).2.1 ≠ (TX0 b).2.1 := by decide +kernel
theorem tyX0_ok : ∀ k, k < 5 → parseFieldDescriptor (TX0 k).2.2.1 = some (tyX0 k) := by decide +kernel
abbrev cX0_init : ByteArray := prog_2_method_1_code
def yX0_init : MethodName := ⟨RX0, "<init>", "()V"⟩
abbrev cX0_perform : ByteArray := prog_2_method_2_code
def yX0_perform : MethodName := ⟨RX0, "perform", "([IIII)I"⟩
abbrev cX0_own : ByteArray := prog_2_method_3_code
def yX0_own : MethodName := ⟨RX0, "own", "(III)I"⟩
abbrev cX0_run : ByteArray := prog_2_method_4_code
def yX0_run : MethodName := ⟨RX0, "run", "(IIII)I"⟩
abbrev cX0_withBody : ByteArray := prog_2_method_5_code
def yX0_withBody : MethodName := ⟨RX0, "withBody", "(II)I"⟩
abbrev cX0_begin : ByteArray := prog_2_method_6_code
def yX0_begin : MethodName := ⟨RX0, "begin", "(I)V"⟩
def RX1 : String := "WoundEggs$Rows"
def TX1 : u_T := fun k => match k with
  | 0 => ("WoundEggs$Rows", "rows", "[[I", true)
  | _ => ("WoundEggs$Rows", "count", "I", false)
def tyX1 : Nat → FieldType := fun k => match k with
  | 0 => .array (.array .int)
  | _ => .int
abbrev wsX10 : List Cond := u_ws RX1 TX1 2
theorem nmX1 : ∀ a, a < 2 → ∀ b, b < 2 → a ≠ b → (TX1 a).2.1 ≠ (TX1 b).2.1 := by decide +kernel
theorem tyX1_ok : ∀ k, k < 2 → parseFieldDescriptor (TX1 k).2.2.1 = some (tyX1 k) := by decide +kernel
abbrev cX1_init : ByteArray := prog_3_method_1_code
def yX1_init : MethodName := ⟨RX1, "<init>", "(I)V"⟩
abbrev cX1_empty : ByteArray := prog_3_method_2_code
def yX1_empty : MethodName := ⟨RX1, "empty", "()I"⟩
abbrev cX1_add : ByteArray := prog_3_method_3_code
def yX1_add : MethodName := ⟨RX1, "add", "(III)I"⟩
abbrev cX1_becomes : ByteArray := prog_3_method_4_code
def yX1_becomes : MethodName := ⟨RX1, "becomes", "(LWoundEggs$Rows;)V"⟩
def RX2 : String := "WoundEggs$State"
def TX2 : u_T := fun k => match k with
  | 0 => ("WoundEggs$State", "eggs", "I", false)
  | 1 => ("WoundEggs$State", "egg", "[[I", true)
  | 2 => ("WoundEggs$State", "listening", "I", false)
  | 3 => ("WoundEggs$State", "day", "I", false)
  | 4 => ("WoundEggs$State", "holds", "I", false)
  | 5 => ("WoundEggs$State", "heard", "LWoundEggs$Rows;", true)
  | 6 => ("WoundEggs$State", "planned", "LWoundEggs$Rows;", true)
  | _ => ("WoundEggs$State", "booked", "LWoundEggs$Rows;", true)
def tyX2 : Nat → FieldType := fun k => match k with
  | 0 => .int
  | 1 => .array (.array .int)
  | 2 => .int
  | 3 => .int
  | 4 => .int
  | 5 => .object "WoundEggs$Rows"
  | 6 => .object "WoundEggs$Rows"
  | _ => .object "WoundEggs$Rows"
abbrev wsX20 : List Cond := u_ws RX2 TX2 8
theorem nmX2 : ∀ a, a < 8 → ∀ b, b < 8 → a ≠ b → (TX2 a).2.1 ≠ (TX2 b).2.1 := by decide +kernel
theorem tyX2_ok : ∀ k, k < 8 → parseFieldDescriptor (TX2 k).2.2.1 = some (tyX2 k) := by decide +kernel
abbrev cX2_init : ByteArray := prog_4_method_1_code
def yX2_init : MethodName := ⟨RX2, "<init>", "()V"⟩
abbrev cX2_has : ByteArray := prog_4_method_2_code
def yX2_has : MethodName := ⟨RX2, "has", "(I)Z"⟩
abbrev cX2_becomes : ByteArray := prog_4_method_3_code
def yX2_becomes : MethodName := ⟨RX2, "becomes", "(LWoundEggs$State;)V"⟩
abbrev cX2_reckonAll : ByteArray := prog_4_method_4_code
def yX2_reckonAll : MethodName := ⟨RX2, "reckonAll", "(LWoundEggs$Store;)V"⟩
abbrev cX2_reckonOne : ByteArray := prog_4_method_5_code
def yX2_reckonOne : MethodName := ⟨RX2, "reckonOne", "(ILWoundEggs$Store;)V"⟩
abbrev cX2_turnOf : ByteArray := prog_4_method_6_code
def yX2_turnOf : MethodName := ⟨RX2, "turnOf", "([I)I"⟩
abbrev cX2_restOf : ByteArray := prog_4_method_7_code
def yX2_restOf : MethodName := ⟨RX2, "restOf", "([II)I"⟩
abbrev cX2_isDue : ByteArray := prog_4_method_8_code
def yX2_isDue : MethodName := ⟨RX2, "isDue", "(II)Z"⟩
abbrev cX2_goingOff : ByteArray := prog_4_method_9_code
def yX2_goingOff : MethodName := ⟨RX2, "goingOff", "(I)I"⟩
abbrev cX2_total : ByteArray := prog_4_method_10_code
def yX2_total : MethodName := ⟨RX2, "total", "(I)I"⟩
abbrev cX2_go : ByteArray := prog_4_method_11_code
def yX2_go : MethodName := ⟨RX2, "go", "(II)V"⟩
abbrev cX2_firstQuiet : ByteArray := prog_4_method_12_code
def yX2_firstQuiet : MethodName := ⟨RX2, "firstQuiet", "()I"⟩
abbrev cX2_busiest : ByteArray := prog_4_method_13_code
def yX2_busiest : MethodName := ⟨RX2, "busiest", "(IZ)I"⟩
abbrev cX2_weekdays : ByteArray := prog_4_method_14_code
def yX2_weekdays : MethodName := ⟨RX2, "weekdays", "(I)I"⟩
abbrev cX2_agrees : ByteArray := prog_4_method_15_code
def yX2_agrees : MethodName := ⟨RX2, "agrees", "(I)Z"⟩
abbrev cX2_meeting : ByteArray := prog_4_method_16_code
def yX2_meeting : MethodName := ⟨RX2, "meeting", "(IZ)J"⟩
abbrev cX2_round : ByteArray := prog_4_method_17_code
def yX2_round : MethodName := ⟨RX2, "round", "()J"⟩
abbrev cX2_quietDays : ByteArray := prog_4_method_18_code
def yX2_quietDays : MethodName := ⟨RX2, "quietDays", "(JIJJ)J"⟩
def RX3 : String := "WoundEggs$Store"
def TX3 : u_T := fun k => match k with
  | 0 => ("WoundEggs$Store", "all", "I", false)
  | 1 => ("WoundEggs$Store", "clauses", "I", false)
  | 2 => ("WoundEggs$Store", "days", "[I", true)
  | 3 => ("WoundEggs$Store", "ends", "[I", true)
  | 4 => ("WoundEggs$Store", "tokens", "[I", true)
  | _ => ("WoundEggs$Store", "used", "I", false)
def tyX3 : Nat → FieldType := fun k => match k with
  | 0 => .int
  | 1 => .int
  | 2 => .array .int
  | 3 => .array .int
  | 4 => .array .int
  | _ => .int
abbrev wsX30 : List Cond := u_ws RX3 TX3 6
theorem nmX3 : ∀ a, a < 6 → ∀ b, b < 6 → a ≠ b → (TX3 a).2.1 ≠ (TX3 b).2.1 := by decide +kernel
theorem tyX3_ok : ∀ k, k < 6 → parseFieldDescriptor (TX3 k).2.2.1 = some (tyX3 k) := by decide +kernel
abbrev cX3_init : ByteArray := prog_5_method_1_code
def yX3_init : MethodName := ⟨RX3, "<init>", "()V"⟩
abbrev cX3_understands : ByteArray := prog_5_method_2_code
def yX3_understands : MethodName := ⟨RX3, "understands", "(LWoundEggs$Text;)Z"⟩
abbrev cX3_readClause : ByteArray := prog_5_method_3_code
def yX3_readClause : MethodName := ⟨RX3, "readClause", "(LWoundEggs$Text;)Z"⟩
abbrev cX3_readAny : ByteArray := prog_5_method_4_code
def yX3_readAny : MethodName := ⟨RX3, "readAny", "(LWoundEggs$Text;I)Z"⟩
abbrev cX3_readOne : ByteArray := prog_5_method_5_code
def yX3_readOne : MethodName := ⟨RX3, "readOne", "(LWoundEggs$Text;I)Z"⟩
abbrev cX3_readTest : ByteArray := prog_5_method_6_code
def yX3_readTest : MethodName := ⟨RX3, "readTest", "(LWoundEggs$Text;)Z"⟩
abbrev cX3_keep : ByteArray := prog_5_method_7_code
def yX3_keep : MethodName := ⟨RX3, "keep", "(I)V"⟩
abbrev cX3_lateness : ByteArray := prog_5_method_8_code
def yX3_lateness : MethodName := ⟨RX3, "lateness", "([II)I"⟩
abbrev cX3_holdsFor : ByteArray := prog_5_method_9_code
def yX3_holdsFor : MethodName := ⟨RX3, "holdsFor", "([IIII)Z"⟩
abbrev cX3_passes : ByteArray := prog_5_method_10_code
def yX3_passes : MethodName := ⟨RX3, "passes", "(I[II)Z"⟩
def RX4 : String := "WoundEggs$Tape"
def TX4 : u_T := fun k => match k with
  | 0 => ("WoundEggs$Tape", "sort", "I", false)
  | 1 => ("WoundEggs$Tape", "length", "I", false)
  | _ => ("WoundEggs$Tape", "items", "[J", true)
def tyX4 : Nat → FieldType := fun k => match k with
  | 0 => .int
  | 1 => .int
  | _ => .array .long
abbrev wsX40 : List Cond := u_ws RX4 TX4 3
theorem nmX4 : ∀ a, a < 3 → ∀ b, b < 3 → a ≠ b → (TX4 a).2.1 ≠ (TX4 b).2.1 := by decide +kernel
theorem tyX4_ok : ∀ k, k < 3 → parseFieldDescriptor (TX4 k).2.2.1 = some (tyX4 k) := by decide +kernel
abbrev cX4_init : ByteArray := prog_6_method_1_code
def yX4_init : MethodName := ⟨RX4, "<init>", "()V"⟩
abbrev cX4_becomes : ByteArray := prog_6_method_2_code
def yX4_becomes : MethodName := ⟨RX4, "becomes", "(II)V"⟩
abbrev cX4_asItem : ByteArray := prog_6_method_3_code
def yX4_asItem : MethodName := ⟨RX4, "asItem", "(J)J"⟩
abbrev cX4_hasRoom : ByteArray := prog_6_method_4_code
def yX4_hasRoom : MethodName := ⟨RX4, "hasRoom", "(II)Z"⟩
def RX5 : String := "WoundEggs$Text"
def TX5 : u_T := fun k => match k with
  | 0 => ("WoundEggs$Text", "signs", "[B", true)
  | 1 => ("WoundEggs$Text", "length", "I", false)
  | _ => ("WoundEggs$Text", "at", "I", false)
def tyX5 : Nat → FieldType := fun k => match k with
  | 0 => .array .byte
  | 1 => .int
  | _ => .int
abbrev wsX50 : List Cond := u_ws RX5 TX5 3
theorem nmX5 : ∀ a, a < 3 → ∀ b, b < 3 → a ≠ b → (TX5 a).2.1 ≠ (TX5 b).2.1 := by decide +kernel
theorem tyX5_ok : ∀ k, k < 3 → parseFieldDescriptor (TX5 k).2.2.1 = some (tyX5 k) := by decide +kernel
abbrev cX5_init : ByteArray := prog_7_method_1_code
def yX5_init : MethodName := ⟨RX5, "<init>", "()V"⟩
abbrev cX5_add : ByteArray := prog_7_method_2_code
def yX5_add : MethodName := ⟨RX5, "add", "(I)I"⟩
abbrev cX5_empty : ByteArray := prog_7_method_3_code
def yX5_empty : MethodName := ⟨RX5, "empty", "()V"⟩
abbrev cX5_next : ByteArray := prog_7_method_4_code
def yX5_next : MethodName := ⟨RX5, "next", "()I"⟩
abbrev cX5_takeSign : ByteArray := prog_7_method_5_code
def yX5_takeSign : MethodName := ⟨RX5, "takeSign", "(I)Z"⟩
abbrev cX5_takeWord : ByteArray := prog_7_method_6_code
def yX5_takeWord : MethodName := ⟨RX5, "takeWord", "(Ljava/lang/String;)Z"⟩
abbrev cX5_takeOneOf : ByteArray := prog_7_method_7_code
def yX5_takeOneOf : MethodName := ⟨RX5, "takeOneOf", "(Ljava/lang/String;)I"⟩
abbrev cX5_takeNumber : ByteArray := prog_7_method_8_code
def yX5_takeNumber : MethodName := ⟨RX5, "takeNumber", "()I"⟩
def RX6 : String := "WoundEggs"
def TX6 : u_T := fun k => match k with
  | 0 => ("WoundEggs", "now", "LWoundEggs$State;", true)
  | 1 => ("WoundEggs", "kept", "LWoundEggs$State;", true)
  | 2 => ("WoundEggs", "trial", "LWoundEggs$State;", true)
  | 3 => ("WoundEggs", "imaged", "Z", false)
  | 4 => ("WoundEggs", "text", "LWoundEggs$Text;", true)
  | 5 => ("WoundEggs", "stores", "[LWoundEggs$Store;", true)
  | 6 => ("WoundEggs", "stored", "I", false)
  | 7 => ("WoundEggs", "acts", "LWoundEggs$Acts;", true)
  | _ => ("WoundEggs", "tapes", "[LWoundEggs$Tape;", true)
def tyX6 : Nat → FieldType := fun k => match k with
  | 0 => .object "WoundEggs$State"
  | 1 => .object "WoundEggs$State"
  | 2 => .object "WoundEggs$State"
  | 3 => .boolean
  | 4 => .object "WoundEggs$Text"
  | 5 => .array (.object "WoundEggs$Store")
  | 6 => .int
  | 7 => .object "WoundEggs$Acts"
  | _ => .array (.object "WoundEggs$Tape")
abbrev wsX60 : List Cond := u_ws RX6 TX6 9
theorem nmX6 : ∀ a, a < 9 → ∀ b, b < 9 → a ≠ b → (TX6 a).2.1 ≠ (TX6 b).2.1 := by decide +kernel
theorem tyX6_ok : ∀ k, k < 9 → parseFieldDescriptor (TX6 k).2.2.1 = some (tyX6 k) := by decide +kernel
abbrev cX6_init : ByteArray := prog_1_method_1_code
def yX6_init : MethodName := ⟨RX6, "<init>", "()V"⟩
abbrev cX6_egg : ByteArray := prog_1_method_2_code
def yX6_egg : MethodName := ⟨RX6, "egg", "(IIII)I"⟩
abbrev cX6_of : ByteArray := prog_1_method_3_code
def yX6_of : MethodName := ⟨RX6, "of", "(II)I"⟩
abbrev cX6_set : ByteArray := prog_1_method_4_code
def yX6_set : MethodName := ⟨RX6, "set", "(III)I"⟩
abbrev cX6_smash : ByteArray := prog_1_method_5_code
def yX6_smash : MethodName := ⟨RX6, "smash", "(IZ)I"⟩
abbrev cX6_listen : ByteArray := prog_1_method_6_code
def yX6_listen : MethodName := ⟨RX6, "listen", "(I)I"⟩
abbrev cX6_row : ByteArray := prog_1_method_7_code
def yX6_row : MethodName := ⟨RX6, "row", "(III)I"⟩
abbrev cX6_feed : ByteArray := prog_1_method_8_code
def yX6_feed : MethodName := ⟨RX6, "feed", "(I)I"⟩
abbrev cX6_store : ByteArray := prog_1_method_9_code
def yX6_store : MethodName := ⟨RX6, "store", "()I"⟩
abbrev cX6_told : ByteArray := prog_1_method_10_code
def yX6_told : MethodName := ⟨RX6, "told", "(I)I"⟩
abbrev cX6_pass : ByteArray := prog_1_method_11_code
def yX6_pass : MethodName := ⟨RX6, "pass", "(I)I"⟩
abbrev cX6_on : ByteArray := prog_1_method_12_code
def yX6_on : MethodName := ⟨RX6, "on", "(II)I"⟩
abbrev cX6_often : ByteArray := prog_1_method_13_code
def yX6_often : MethodName := ⟨RX6, "often", "(IJ)J"⟩
abbrev cX6_together : ByteArray := prog_1_method_14_code
def yX6_together : MethodName := ⟨RX6, "together", "(II)J"⟩
abbrev cX6_busy : ByteArray := prog_1_method_15_code
def yX6_busy : MethodName := ⟨RX6, "busy", "(II)I"⟩
abbrev cX6_hear : ByteArray := prog_1_method_16_code
def yX6_hear : MethodName := ⟨RX6, "hear", "(IIZ)I"⟩
abbrev cX6_can : ByteArray := prog_1_method_17_code
def yX6_can : MethodName := ⟨RX6, "can", "(III)I"⟩
abbrev cX6_odds : ByteArray := prog_1_method_18_code
def yX6_odds : MethodName := ⟨RX6, "odds", "(I)J"⟩
abbrev cX6_mean : ByteArray := prog_1_method_19_code
def yX6_mean : MethodName := ⟨RX6, "mean", "(II)J"⟩
abbrev cX6_plan : ByteArray := prog_1_method_20_code
def yX6_plan : MethodName := ⟨RX6, "plan", "(II)I"⟩
abbrev cX6_ends : ByteArray := prog_1_method_21_code
def yX6_ends : MethodName := ⟨RX6, "ends", "(I)I"⟩
abbrev cX6_book : ByteArray := prog_1_method_22_code
def yX6_book : MethodName := ⟨RX6, "book", "(II)I"⟩
abbrev cX6_looked : ByteArray := prog_1_method_23_code
def yX6_looked : MethodName := ⟨RX6, "looked", "()I"⟩
abbrev cX6_judge : ByteArray := prog_1_method_24_code
def yX6_judge : MethodName := ⟨RX6, "judge", "(II)I"⟩
abbrev cX6_image : ByteArray := prog_1_method_25_code
def yX6_image : MethodName := ⟨RX6, "image", "()I"⟩
abbrev cX6_undo : ByteArray := prog_1_method_26_code
def yX6_undo : MethodName := ⟨RX6, "undo", "()I"⟩
abbrev cX6_act : ByteArray := prog_1_method_27_code
def yX6_act : MethodName := ⟨RX6, "act", "(III)I"⟩
abbrev cX6_trace : ByteArray := prog_1_method_28_code
def yX6_trace : MethodName := ⟨RX6, "trace", "(I)I"⟩
abbrev cX6_taken : ByteArray := prog_1_method_29_code
def yX6_taken : MethodName := ⟨RX6, "taken", "(II)I"⟩
abbrev cX6_count : ByteArray := prog_1_method_30_code
def yX6_count : MethodName := ⟨RX6, "count", "(I)I"⟩
abbrev cX6_tape : ByteArray := prog_1_method_31_code
def yX6_tape : MethodName := ⟨RX6, "tape", "(III)I"⟩
abbrev cX6_item : ByteArray := prog_1_method_32_code
def yX6_item : MethodName := ⟨RX6, "item", "(IIJ)I"⟩
abbrev cX6_read : ByteArray := prog_1_method_33_code
def yX6_read : MethodName := ⟨RX6, "read", "(II)J"⟩
abbrev cX6_shift : ByteArray := prog_1_method_34_code
def yX6_shift : MethodName := ⟨RX6, "shift", "(IIIII)I"⟩
abbrev cX6_holding : ByteArray := prog_1_method_35_code
def yX6_holding : MethodName := ⟨RX6, "holding", "(LWoundEggs$State;)LWoundEggs$Store;"⟩
abbrev cX6_reckon : ByteArray := prog_1_method_36_code
def yX6_reckon : MethodName := ⟨RX6, "reckon", "(LWoundEggs$State;)V"⟩
abbrev cX6_tryDays : ByteArray := prog_1_method_37_code
def yX6_tryDays : MethodName := ⟨RX6, "tryDays", "(I)V"⟩
abbrev cX6_tryRow : ByteArray := prog_1_method_38_code
def yX6_tryRow : MethodName := ⟨RX6, "tryRow", "([I)V"⟩
abbrev cX6_fitting : ByteArray := prog_1_method_39_code
def yX6_fitting : MethodName := ⟨RX6, "fitting", "(IIIIZ)I"⟩
abbrev cX6_within : ByteArray := prog_1_method_40_code
def yX6_within : MethodName := ⟨RX6, "within", "(JJJ)Z"⟩
abbrev cX6_replace : ByteArray := prog_1_method_41_code
def yX6_replace : MethodName := ⟨RX6, "replace", "([III)I"⟩
abbrev cX6_isUnder : ByteArray := prog_1_method_42_code
def yX6_isUnder : MethodName := ⟨RX6, "isUnder", "(II)Z"⟩
abbrev cX6_modulo : ByteArray := prog_1_method_43_code
def yX6_modulo : MethodName := ⟨RX6, "modulo", "(JJ)J"⟩
abbrev cX6_commonDivisor : ByteArray := prog_1_method_44_code
def yX6_commonDivisor : MethodName := ⟨RX6, "commonDivisor", "(JJ)J"⟩
abbrev cX6_commonMultiple : ByteArray := prog_1_method_45_code
def yX6_commonMultiple : MethodName := ⟨RX6, "commonMultiple", "(JJ)J"⟩
abbrev cX6_inLowestTerms : ByteArray := prog_1_method_46_code
def yX6_inLowestTerms : MethodName := ⟨RX6, "inLowestTerms", "(JJI)J"⟩
abbrev cX6_commonRest : ByteArray := prog_1_method_47_code
def yX6_commonRest : MethodName := ⟨RX6, "commonRest", "(JJJJ)J"⟩
def RX7 : String := "WoundEggsModel"
def TX7 : u_T := fun k => match k with
  | 0 => ("WoundEggsModel", "eggs", "I", false)
  | 1 => ("WoundEggsModel", "kind", "[I", true)
  | 2 => ("WoundEggsModel", "v", "[I", true)
  | 3 => ("WoundEggsModel", "period", "[I", true)
  | 4 => ("WoundEggsModel", "setting", "[I", true)
  | 5 => ("WoundEggsModel", "broken", "[I", true)
  | 6 => ("WoundEggsModel", "went", "[I", true)
  | 7 => ("WoundEggsModel", "missed", "[I", true)
  | 8 => ("WoundEggsModel", "rows", "[I", true)
  | 9 => ("WoundEggsModel", "listening", "I", false)
  | 10 => ("WoundEggsModel", "day", "I", false)
  | 11 => ("WoundEggsModel", "texted", "I", false)
  | 12 => ("WoundEggsModel", "text", "[I", true)
  | 13 => ("WoundEggsModel", "at", "I", false)
  | 14 => ("WoundEggsModel", "value", "I", false)
  | 15 => ("WoundEggsModel", "digits", "I", false)
  | 16 => ("WoundEggsModel", "open", "I", false)
  | 17 => ("WoundEggsModel", "stores", "I", false)
  | 18 => ("WoundEggsModel", "holds", "I", false)
  | 19 => ("WoundEggsModel", "clauses", "[I", true)
  | 20 => ("WoundEggsModel", "word", "[I", true)
  | 21 => ("WoundEggsModel", "number", "[I", true)
  | 22 => ("WoundEggsModel", "begins", "[I", true)
  | 23 => ("WoundEggsModel", "length", "[I", true)
  | 24 => ("WoundEggsModel", "code", "[I", true)
  | 25 => ("WoundEggsModel", "coded", "I", false)
  | 26 => ("WoundEggsModel", "stack", "[Z", true)
  | 27 => ("WoundEggsModel", "heard", "I", false)
  | 28 => ("WoundEggsModel", "heardOf", "[I", true)
  | 29 => ("WoundEggsModel", "heardIn", "[I", true)
  | 30 => ("WoundEggsModel", "heardSo", "[I", true)
  | 31 => ("WoundEggsModel", "inPlan", "I", false)
  | 32 => ("WoundEggsModel", "goes", "[I", true)
  | 33 => ("WoundEggsModel", "whose", "[I", true)
  | 34 => ("WoundEggsModel", "inBook", "I", false)
  | 35 => ("WoundEggsModel", "booked", "[I", true)
  | 36 => ("WoundEggsModel", "bookWent", "[I", true)
  | 37 => ("WoundEggsModel", "traced", "I", false)
  | 38 => ("WoundEggsModel", "traces", "[I", true)
  | 39 => ("WoundEggsModel", "imaged", "Z", false)
  | 40 => ("WoundEggsModel", "image", "[I", true)
  | 41 => ("WoundEggsModel", "ahead", "[I", true)
  | 42 => ("WoundEggsModel", "tapeSort", "[I", true)
  | 43 => ("WoundEggsModel", "tapeSize", "[I", true)
  | _ => ("WoundEggsModel", "items", "[J", true)
def tyX7 : Nat → FieldType := fun k => match k with
  | 0 => .int
  | 1 => .array .int
  | 2 => .array .int
  | 3 => .array .int
  | 4 => .array .int
  | 5 => .array .int
  | 6 => .array .int
  | 7 => .array .int
  | 8 => .array .int
  | 9 => .int
  | 10 => .int
  | 11 => .int
  | 12 => .array .int
  | 13 => .int
  | 14 => .int
  | 15 => .int
  | 16 => .int
  | 17 => .int
  | 18 => .int
  | 19 => .array .int
  | 20 => .array .int
  | 21 => .array .int
  | 22 => .array .int
  | 23 => .array .int
  | 24 => .array .int
  | 25 => .int
  | 26 => .array .boolean
  | 27 => .int
  | 28 => .array .int
  | 29 => .array .int
  | 30 => .array .int
  | 31 => .int
  | 32 => .array .int
  | 33 => .array .int
  | 34 => .int
  | 35 => .array .int
  | 36 => .array .int
  | 37 => .int
  | 38 => .array .int
  | 39 => .boolean
  | 40 => .array .int
  | 41 => .array .int
  | 42 => .array .int
  | 43 => .array .int
  | _ => .array .long
abbrev wsX70 : List Cond := u_ws RX7 TX7 45
theorem nmX7 : ∀ a, a < 45 → ∀ b, b < 45 → a ≠ b → (TX7 a).2.1 ≠ (TX7 b).2.1 := by decide +kernel
theorem tyX7_ok : ∀ k, k < 45 → parseFieldDescriptor (TX7 k).2.2.1 = some (tyX7 k) := by decide +kernel
abbrev cX7_init : ByteArray := prog_9_method_1_code
def yX7_init : MethodName := ⟨RX7, "<init>", "()V"⟩
abbrev cX7_within : ByteArray := prog_9_method_2_code
def yX7_within : MethodName := ⟨RX7, "within", "(III)Z"⟩
abbrev cX7_isOne : ByteArray := prog_9_method_3_code
def yX7_isOne : MethodName := ⟨RX7, "isOne", "(I)Z"⟩
abbrev cX7_egg : ByteArray := prog_9_method_4_code
def yX7_egg : MethodName := ⟨RX7, "egg", "(IIII)I"⟩
abbrev cX7_of : ByteArray := prog_9_method_5_code
def yX7_of : MethodName := ⟨RX7, "of", "(II)I"⟩
abbrev cX7_set : ByteArray := prog_9_method_6_code
def yX7_set : MethodName := ⟨RX7, "set", "(III)I"⟩
abbrev cX7_smash : ByteArray := prog_9_method_7_code
def yX7_smash : MethodName := ⟨RX7, "smash", "(IZ)I"⟩
abbrev cX7_listen : ByteArray := prog_9_method_8_code
def yX7_listen : MethodName := ⟨RX7, "listen", "(I)I"⟩
abbrev cX7_row : ByteArray := prog_9_method_9_code
def yX7_row : MethodName := ⟨RX7, "row", "(III)I"⟩
abbrev cX7_feed : ByteArray := prog_9_method_10_code
def yX7_feed : MethodName := ⟨RX7, "feed", "(I)I"⟩
abbrev cX7_is : ByteArray := prog_9_method_11_code
def yX7_is : MethodName := ⟨RX7, "is", "(I)Z"⟩
abbrev cX7_isDigit : ByteArray := prog_9_method_12_code
def yX7_isDigit : MethodName := ⟨RX7, "isDigit", "()Z"⟩
abbrev cX7_isNumber : ByteArray := prog_9_method_13_code
def yX7_isNumber : MethodName := ⟨RX7, "isNumber", "()Z"⟩
abbrev cX7_isAll : ByteArray := prog_9_method_14_code
def yX7_isAll : MethodName := ⟨RX7, "isAll", "(Ljava/lang/String;)Z"⟩
abbrev cX7_codes : ByteArray := prog_9_method_15_code
def yX7_codes : MethodName := ⟨RX7, "codes", "(I)Z"⟩
abbrev cX7_isTest : ByteArray := prog_9_method_16_code
def yX7_isTest : MethodName := ⟨RX7, "isTest", "()Z"⟩
abbrev cX7_isOpened : ByteArray := prog_9_method_17_code
def yX7_isOpened : MethodName := ⟨RX7, "isOpened", "(I)Z"⟩
abbrev cX7_isF : ByteArray := prog_9_method_18_code
def yX7_isF : MethodName := ⟨RX7, "isF", "()Z"⟩
abbrev cX7_isT : ByteArray := prog_9_method_19_code
def yX7_isT : MethodName := ⟨RX7, "isT", "()Z"⟩
abbrev cX7_isE : ByteArray := prog_9_method_20_code
def yX7_isE : MethodName := ⟨RX7, "isE", "()Z"⟩
abbrev cX7_isClause : ByteArray := prog_9_method_21_code
def yX7_isClause : MethodName := ⟨RX7, "isClause", "(I)Z"⟩
abbrev cX7_store : ByteArray := prog_9_method_22_code
def yX7_store : MethodName := ⟨RX7, "store", "()I"⟩
abbrev cX7_letterOf : ByteArray := prog_9_method_23_code
def yX7_letterOf : MethodName := ⟨RX7, "letterOf", "(II)I"⟩
abbrev cX7_isTrue : ByteArray := prog_9_method_24_code
def yX7_isTrue : MethodName := ⟨RX7, "isTrue", "(II)Z"⟩
abbrev cX7_allBy : ByteArray := prog_9_method_25_code
def yX7_allBy : MethodName := ⟨RX7, "allBy", "()I"⟩
abbrev cX7_sum : ByteArray := prog_9_method_26_code
def yX7_sum : MethodName := ⟨RX7, "sum", "(I)I"⟩
abbrev cX7_turn : ByteArray := prog_9_method_27_code
def yX7_turn : MethodName := ⟨RX7, "turn", "(I)I"⟩
abbrev cX7_rest : ByteArray := prog_9_method_28_code
def yX7_rest : MethodName := ⟨RX7, "rest", "(I)I"⟩
abbrev cX7_isDay : ByteArray := prog_9_method_29_code
def yX7_isDay : MethodName := ⟨RX7, "isDay", "(II)Z"⟩
abbrev cX7_goesOff : ByteArray := prog_9_method_30_code
def yX7_goesOff : MethodName := ⟨RX7, "goesOff", "(II)Z"⟩
abbrev cX7_inDays : ByteArray := prog_9_method_31_code
def yX7_inDays : MethodName := ⟨RX7, "inDays", "(I)I"⟩
abbrev cX7_goOff : ByteArray := prog_9_method_32_code
def yX7_goOff : MethodName := ⟨RX7, "goOff", "(I)I"⟩
abbrev cX7_isHeard : ByteArray := prog_9_method_33_code
def yX7_isHeard : MethodName := ⟨RX7, "isHeard", "()Z"⟩
abbrev cX7_goesDay : ByteArray := prog_9_method_34_code
def yX7_goesDay : MethodName := ⟨RX7, "goesDay", "()V"⟩
abbrev cX7_allWent : ByteArray := prog_9_method_35_code
def yX7_allWent : MethodName := ⟨RX7, "allWent", "()I"⟩
abbrev cX7_allMissed : ByteArray := prog_9_method_36_code
def yX7_allMissed : MethodName := ⟨RX7, "allMissed", "()I"⟩
abbrev cX7_quiet : ByteArray := prog_9_method_37_code
def yX7_quiet : MethodName := ⟨RX7, "quiet", "()I"⟩
abbrev cX7_told : ByteArray := prog_9_method_38_code
def yX7_told : MethodName := ⟨RX7, "told", "(I)I"⟩
abbrev cX7_pass : ByteArray := prog_9_method_39_code
def yX7_pass : MethodName := ⟨RX7, "pass", "(I)I"⟩
abbrev cX7_on : ByteArray := prog_9_method_40_code
def yX7_on : MethodName := ⟨RX7, "on", "(II)I"⟩
abbrev cX7_often : ByteArray := prog_9_method_41_code
def yX7_often : MethodName := ⟨RX7, "often", "(IJ)J"⟩
abbrev cX7_gcd : ByteArray := prog_9_method_42_code
def yX7_gcd : MethodName := ⟨RX7, "gcd", "(JJ)J"⟩
abbrev cX7_first : ByteArray := prog_9_method_43_code
def yX7_first : MethodName := ⟨RX7, "first", "(I)J"⟩
abbrev cX7_common : ByteArray := prog_9_method_44_code
def yX7_common : MethodName := ⟨RX7, "common", "(I)J"⟩
abbrev cX7_together : ByteArray := prog_9_method_45_code
def yX7_together : MethodName := ⟨RX7, "together", "(II)J"⟩
abbrev cX7_busy : ByteArray := prog_9_method_46_code
def yX7_busy : MethodName := ⟨RX7, "busy", "(II)I"⟩
abbrev cX7_hear : ByteArray := prog_9_method_47_code
def yX7_hear : MethodName := ⟨RX7, "hear", "(IIZ)I"⟩
abbrev cX7_isAllSo : ByteArray := prog_9_method_48_code
def yX7_isAllSo : MethodName := ⟨RX7, "isAllSo", "(I)Z"⟩
abbrev cX7_can : ByteArray := prog_9_method_49_code
def yX7_can : MethodName := ⟨RX7, "can", "(III)I"⟩
abbrev cX7_part : ByteArray := prog_9_method_50_code
def yX7_part : MethodName := ⟨RX7, "part", "(JJI)J"⟩
abbrev cX7_odds : ByteArray := prog_9_method_51_code
def yX7_odds : MethodName := ⟨RX7, "odds", "(I)J"⟩
abbrev cX7_mean : ByteArray := prog_9_method_52_code
def yX7_mean : MethodName := ⟨RX7, "mean", "(II)J"⟩
abbrev cX7_plan : ByteArray := prog_9_method_53_code
def yX7_plan : MethodName := ⟨RX7, "plan", "(II)I"⟩
abbrev cX7_ends : ByteArray := prog_9_method_54_code
def yX7_ends : MethodName := ⟨RX7, "ends", "(I)I"⟩
abbrev cX7_book : ByteArray := prog_9_method_55_code
def yX7_book : MethodName := ⟨RX7, "book", "(II)I"⟩
abbrev cX7_looked : ByteArray := prog_9_method_56_code
def yX7_looked : MethodName := ⟨RX7, "looked", "()I"⟩
abbrev cX7_judge : ByteArray := prog_9_method_57_code
def yX7_judge : MethodName := ⟨RX7, "judge", "(II)I"⟩
abbrev cX7_keep : ByteArray := prog_9_method_58_code
def yX7_keep : MethodName := ⟨RX7, "keep", "([I)V"⟩
abbrev cX7_again : ByteArray := prog_9_method_59_code
def yX7_again : MethodName := ⟨RX7, "again", "([I)V"⟩
abbrev cX7_image : ByteArray := prog_9_method_60_code
def yX7_image : MethodName := ⟨RX7, "image", "()I"⟩
abbrev cX7_undo : ByteArray := prog_9_method_61_code
def yX7_undo : MethodName := ⟨RX7, "undo", "()I"⟩
abbrev cX7_ran : ByteArray := prog_9_method_62_code
def yX7_ran : MethodName := ⟨RX7, "ran", "(I)V"⟩
abbrev cX7_above : ByteArray := prog_9_method_63_code
def yX7_above : MethodName := ⟨RX7, "above", "(I)I"⟩
abbrev cX7_ticks : ByteArray := prog_9_method_64_code
def yX7_ticks : MethodName := ⟨RX7, "ticks", "(III)I"⟩
abbrev cX7_stirs : ByteArray := prog_9_method_65_code
def yX7_stirs : MethodName := ⟨RX7, "stirs", "(III)I"⟩
abbrev cX7_tells : ByteArray := prog_9_method_66_code
def yX7_tells : MethodName := ⟨RX7, "tells", "(III)I"⟩
abbrev cX7_act : ByteArray := prog_9_method_67_code
def yX7_act : MethodName := ⟨RX7, "act", "(III)I"⟩
abbrev cX7_trace : ByteArray := prog_9_method_68_code
def yX7_trace : MethodName := ⟨RX7, "trace", "(I)I"⟩
abbrev cX7_taken : ByteArray := prog_9_method_69_code
def yX7_taken : MethodName := ⟨RX7, "taken", "(II)I"⟩
abbrev cX7_count : ByteArray := prog_9_method_70_code
def yX7_count : MethodName := ⟨RX7, "count", "(I)I"⟩
abbrev cX7_isTape : ByteArray := prog_9_method_71_code
def yX7_isTape : MethodName := ⟨RX7, "isTape", "(I)Z"⟩
abbrev cX7_tape : ByteArray := prog_9_method_72_code
def yX7_tape : MethodName := ⟨RX7, "tape", "(III)I"⟩
abbrev cX7_kept : ByteArray := prog_9_method_73_code
def yX7_kept : MethodName := ⟨RX7, "kept", "(IJ)J"⟩
abbrev cX7_item : ByteArray := prog_9_method_74_code
def yX7_item : MethodName := ⟨RX7, "item", "(IIJ)I"⟩
abbrev cX7_read : ByteArray := prog_9_method_75_code
def yX7_read : MethodName := ⟨RX7, "read", "(II)J"⟩
abbrev cX7_shift : ByteArray := prog_9_method_76_code
def yX7_shift : MethodName := ⟨RX7, "shift", "(IIIII)I"⟩
def RJx145de : String := "java/io/Serializable"
def TJx145de : u_T := fun k => match k with
  | _ => ("", "", "", false)
def tyJx145de : Nat → FieldType := fun k => match k with
  | _ => .int
abbrev wsJx145de0 : List Cond := u_ws RJx145de TJx145de 0
theorem nmJx145de : ∀ a, a < 0 → ∀ b, b < 0 → a ≠ b → (TJx145de a).2.1 ≠ (TJx145de b).2.1 := by decide +kernel
theorem tyJx145de_ok : ∀ k, k < 0 → parseFieldDescriptor (TJx145de k).2.2.1 = some (tyJx145de k) := by decide +kernel
def RJx9f9b0 : String := "java/lang/CharSequence"
def TJx9f9b0 : u_T := fun k => match k with
  | _ => ("", "", "", false)
def tyJx9f9b0 : Nat → FieldType := fun k => match k with
  | _ => .int
abbrev wsJx9f9b00 : List Cond := u_ws RJx9f9b0 TJx9f9b0 0
theorem nmJx9f9b0 : ∀ a, a < 0 → ∀ b, b < 0 → a ≠ b → (TJx9f9b0 a).2.1 ≠ (TJx9f9b0 b).2.1 := by decide +kernel
theorem tyJx9f9b0_ok : ∀ k, k < 0 → parseFieldDescriptor (TJx9f9b0 k).2.2.1 = some (tyJx9f9b0 k) := by decide +kernel
def RJ11 : String := "java/lang/Character"
def TJ11 : u_T := fun k => match k with
  | _ => ("", "", "", false)
def tyJ11 : Nat → FieldType := fun k => match k with
  | _ => .int
abbrev wsJ110 : List Cond := u_ws RJ11 TJ11 0
theorem nmJ11 : ∀ a, a < 0 → ∀ b, b < 0 → a ≠ b → (TJ11 a).2.1 ≠ (TJ11 b).2.1 := by decide +kernel
theorem tyJ11_ok : ∀ k, k < 0 → parseFieldDescriptor (TJ11 k).2.2.1 = some (tyJ11 k) := by decide +kernel
abbrev cJ11_isValidCodePoint_9a6ad : ByteArray := prog_10_method_11_code
def yJ11_isValidCodePoint_9a6ad : MethodName := ⟨RJ11, "isValidCodePoint", "(I)Z"⟩
abbrev cJ11_highSurrogate_5068e : ByteArray := prog_10_method_28_code
def yJ11_highSurrogate_5068e : MethodName := ⟨RJ11, "highSurrogate", "(I)C"⟩
abbrev cJ11_lowSurrogate_5068e : ByteArray := prog_10_method_29_code
def yJ11_lowSurrogate_5068e : MethodName := ⟨RJ11, "lowSurrogate", "(I)C"⟩
def RJxb160c : String := "java/lang/Comparable"
def TJxb160c : u_T := fun k => match k with
  | _ => ("", "", "", false)
def tyJxb160c : Nat → FieldType := fun k => match k with
  | _ => .int
abbrev wsJxb160c0 : List Cond := u_ws RJxb160c TJxb160c 0
theorem nmJxb160c : ∀ a, a < 0 → ∀ b, b < 0 → a ≠ b → (TJxb160c a).2.1 ≠ (TJxb160c b).2.1 := by decide +kernel
theorem tyJxb160c_ok : ∀ k, k < 0 → parseFieldDescriptor (TJxb160c k).2.2.1 = some (tyJxb160c k) := by decide +kernel
def RJ6 : String := "java/lang/Integer"
def TJ6 : u_T := fun k => match k with
  | _ => ("", "", "", false)
def tyJ6 : Nat → FieldType := fun k => match k with
  | _ => .int
abbrev wsJ60 : List Cond := u_ws RJ6 TJ6 0
theorem nmJ6 : ∀ a, a < 0 → ∀ b, b < 0 → a ≠ b → (TJ6 a).2.1 ≠ (TJ6 b).2.1 := by decide +kernel
theorem tyJ6_ok : ∀ k, k < 0 → parseFieldDescriptor (TJ6 k).2.2.1 = some (tyJ6 k) := by decide +kernel
abbrev cJ6_bitCount_0f7a4 : ByteArray := prog_11_method_49_code
def yJ6_bitCount_0f7a4 : MethodName := ⟨RJ6, "bitCount", "(I)I"⟩
def RJ9 : String := "java/lang/Math"
def TJ9 : u_T := fun k => match k with
  | _ => ("", "", "", false)
def tyJ9 : Nat → FieldType := fun k => match k with
  | _ => .int
abbrev wsJ90 : List Cond := u_ws RJ9 TJ9 0
theorem nmJ9 : ∀ a, a < 0 → ∀ b, b < 0 → a ≠ b → (TJ9 a).2.1 ≠ (TJ9 b).2.1 := by decide +kernel
theorem tyJ9_ok : ∀ k, k < 0 → parseFieldDescriptor (TJ9 k).2.2.1 = some (tyJ9 k) := by decide +kernel
abbrev cJ9_floorMod_7cf53 : ByteArray := prog_12_method_50_code
def yJ9_floorMod_7cf53 : MethodName := ⟨RJ9, "floorMod", "(II)I"⟩
abbrev cJ9_floorMod_1978a : ByteArray := prog_12_method_51_code
def yJ9_floorMod_1978a : MethodName := ⟨RJ9, "floorMod", "(JI)I"⟩
abbrev cJ9_floorMod_f86c9 : ByteArray := prog_12_method_52_code
def yJ9_floorMod_f86c9 : MethodName := ⟨RJ9, "floorMod", "(JJ)J"⟩
abbrev cJ9_max_7cf53 : ByteArray := prog_12_method_65_code
def yJ9_max_7cf53 : MethodName := ⟨RJ9, "max", "(II)I"⟩
abbrev cJ9_min_7cf53 : ByteArray := prog_12_method_69_code
def yJ9_min_7cf53 : MethodName := ⟨RJ9, "min", "(II)I"⟩
def RJ0 : String := "java/lang/String"
def TJ0 : u_T := fun k => match k with
  | _ => ("", "", "", false)
def tyJ0 : Nat → FieldType := fun k => match k with
  | _ => .int
abbrev wsJ00 : List Cond := u_ws RJ0 TJ0 0
theorem nmJ0 : ∀ a, a < 0 → ∀ b, b < 0 → a ≠ b → (TJ0 a).2.1 ≠ (TJ0 b).2.1 := by decide +kernel
theorem tyJ0_ok : ∀ k, k < 0 → parseFieldDescriptor (TJ0 k).2.2.1 = some (tyJ0 k) := by decide +kernel
abbrev cJ0_length_8abf5 : ByteArray := prog_13_method_54_code
def yJ0_length_8abf5 : MethodName := ⟨RJ0, "length", "()I"⟩
abbrev cJ0_charAt_5068e : ByteArray := prog_13_method_56_code
def yJ0_charAt_5068e : MethodName := ⟨RJ0, "charAt", "(I)C"⟩
abbrev cJ0_indexOf_0f7a4 : ByteArray := prog_13_method_79_code
def yJ0_indexOf_0f7a4 : MethodName := ⟨RJ0, "indexOf", "(I)I"⟩
abbrev cJ0_indexOf_7cf53 : ByteArray := prog_13_method_80_code
def yJ0_indexOf_7cf53 : MethodName := ⟨RJ0, "indexOf", "(II)I"⟩
abbrev cJ0_coder_7d493 : ByteArray := prog_13_method_152_code
def yJ0_coder_7d493 : MethodName := ⟨RJ0, "coder", "()B"⟩
abbrev cJ0_isLatin1_aae02 : ByteArray := prog_13_method_154_code
def yJ0_isLatin1_aae02 : MethodName := ⟨RJ0, "isLatin1", "()Z"⟩
abbrev cJ0_checkIndex_df160 : ByteArray := prog_13_method_155_code
def yJ0_checkIndex_df160 : MethodName := ⟨RJ0, "checkIndex", "(II)V"⟩
abbrev cJ0_checkBoundsBeginEnd_23922 : ByteArray := prog_13_method_158_code
def yJ0_checkBoundsBeginEnd_23922 : MethodName := ⟨RJ0, "checkBoundsBeginEnd", "(III)V"⟩
def RJ1 : String := "java/lang/StringLatin1"
def TJ1 : u_T := fun k => match k with
  | _ => ("", "", "", false)
def tyJ1 : Nat → FieldType := fun k => match k with
  | _ => .int
abbrev wsJ10 : List Cond := u_ws RJ1 TJ1 0
theorem nmJ1 : ∀ a, a < 0 → ∀ b, b < 0 → a ≠ b → (TJ1 a).2.1 ≠ (TJ1 b).2.1 := by decide +kernel
theorem tyJ1_ok : ∀ k, k < 0 → parseFieldDescriptor (TJ1 k).2.2.1 = some (tyJ1 k) := by decide +kernel
abbrev cJ1_charAt_3b067 : ByteArray := prog_14_method_2_code
def yJ1_charAt_3b067 : MethodName := ⟨RJ1, "charAt", "([BI)C"⟩
abbrev cJ1_canEncode_9a6ad : ByteArray := prog_14_method_4_code
def yJ1_canEncode_9a6ad : MethodName := ⟨RJ1, "canEncode", "(I)Z"⟩
abbrev cJ1_indexOf_4cfef : ByteArray := prog_14_method_22_code
def yJ1_indexOf_4cfef : MethodName := ⟨RJ1, "indexOf", "([BIII)I"⟩
abbrev cJ1_indexOfChar_4cfef : ByteArray := prog_14_method_23_code
def yJ1_indexOfChar_4cfef : MethodName := ⟨RJ1, "indexOfChar", "([BIII)I"⟩
def RJ2 : String := "java/lang/StringUTF16"
def TJ2 : u_T := fun k => match k with
  | _ => ("", "", "", false)
def tyJ2 : Nat → FieldType := fun k => match k with
  | _ => .int
abbrev wsJ20 : List Cond := u_ws RJ2 TJ2 0
theorem nmJ2 : ∀ a, a < 0 → ∀ b, b < 0 → a ≠ b → (TJ2 a).2.1 ≠ (TJ2 b).2.1 := by decide +kernel
theorem tyJ2_ok : ∀ k, k < 0 → parseFieldDescriptor (TJ2 k).2.2.1 = some (tyJ2 k) := by decide +kernel
abbrev cJ2_getChar_3b067 : ByteArray := prog_15_method_5_code
def yJ2_getChar_3b067 : MethodName := ⟨RJ2, "getChar", "([BI)C"⟩
abbrev cJ2_length_9d52b : ByteArray := prog_15_method_6_code
def yJ2_length_9d52b : MethodName := ⟨RJ2, "length", "([B)I"⟩
abbrev cJ2_indexOf_4cfef : ByteArray := prog_15_method_40_code
def yJ2_indexOf_4cfef : MethodName := ⟨RJ2, "indexOf", "([BIII)I"⟩
abbrev cJ2_indexOfChar_4cfef : ByteArray := prog_15_method_47_code
def yJ2_indexOfChar_4cfef : MethodName := ⟨RJ2, "indexOfChar", "([BIII)I"⟩
abbrev cJ2_indexOfCharUnsafe_4cfef : ByteArray := prog_15_method_48_code
def yJ2_indexOfCharUnsafe_4cfef : MethodName := ⟨RJ2, "indexOfCharUnsafe", "([BIII)I"⟩
abbrev cJ2_indexOfSupplementary_4cfef : ByteArray := prog_15_method_49_code
def yJ2_indexOfSupplementary_4cfef : MethodName := ⟨RJ2, "indexOfSupplementary", "([BIII)I"⟩
abbrev cJ2_charAt_3b067 : ByteArray := prog_15_method_83_code
def yJ2_charAt_3b067 : MethodName := ⟨RJ2, "charAt", "([BI)C"⟩
abbrev cJ2_checkIndex_2214a : ByteArray := prog_15_method_91_code
def yJ2_checkIndex_2214a : MethodName := ⟨RJ2, "checkIndex", "(I[B)V"⟩
abbrev cJ2_checkBoundsBeginEnd_d044e : ByteArray := prog_15_method_93_code
def yJ2_checkBoundsBeginEnd_d044e : MethodName := ⟨RJ2, "checkBoundsBeginEnd", "(II[B)V"⟩
def RJ10 : String := "java/lang/System"
def TJ10 : u_T := fun k => match k with
  | _ => ("", "", "", false)
def tyJ10 : Nat → FieldType := fun k => match k with
  | _ => .int
abbrev wsJ100 : List Cond := u_ws RJ10 TJ10 0
theorem nmJ10 : ∀ a, a < 0 → ∀ b, b < 0 → a ≠ b → (TJ10 a).2.1 ≠ (TJ10 b).2.1 := by decide +kernel
theorem tyJ10_ok : ∀ k, k < 0 → parseFieldDescriptor (TJ10 k).2.2.1 = some (tyJ10 k) := by decide +kernel
def RJxfd54e : String := "java/lang/constant/Constable"
def TJxfd54e : u_T := fun k => match k with
  | _ => ("", "", "", false)
def tyJxfd54e : Nat → FieldType := fun k => match k with
  | _ => .int
abbrev wsJxfd54e0 : List Cond := u_ws RJxfd54e TJxfd54e 0
theorem nmJxfd54e : ∀ a, a < 0 → ∀ b, b < 0 → a ≠ b → (TJxfd54e a).2.1 ≠ (TJxfd54e b).2.1 := by decide +kernel
theorem tyJxfd54e_ok : ∀ k, k < 0 → parseFieldDescriptor (TJxfd54e k).2.2.1 = some (tyJxfd54e k) := by decide +kernel
def RJx3cf43 : String := "java/lang/constant/ConstantDesc"
def TJx3cf43 : u_T := fun k => match k with
  | _ => ("", "", "", false)
def tyJx3cf43 : Nat → FieldType := fun k => match k with
  | _ => .int
abbrev wsJx3cf430 : List Cond := u_ws RJx3cf43 TJx3cf43 0
theorem nmJx3cf43 : ∀ a, a < 0 → ∀ b, b < 0 → a ≠ b → (TJx3cf43 a).2.1 ≠ (TJx3cf43 b).2.1 := by decide +kernel
theorem tyJx3cf43_ok : ∀ k, k < 0 → parseFieldDescriptor (TJx3cf43 k).2.2.1 = some (tyJx3cf43 k) := by decide +kernel
def RJ7 : String := "java/util/Arrays"
def TJ7 : u_T := fun k => match k with
  | _ => ("", "", "", false)
def tyJ7 : Nat → FieldType := fun k => match k with
  | _ => .int
abbrev wsJ70 : List Cond := u_ws RJ7 TJ7 0
theorem nmJ7 : ∀ a, a < 0 → ∀ b, b < 0 → a ≠ b → (TJ7 a).2.1 ≠ (TJ7 b).2.1 := by decide +kernel
theorem tyJ7_ok : ∀ k, k < 0 → parseFieldDescriptor (TJ7 k).2.2.1 = some (tyJ7 k) := by decide +kernel
abbrev cJ7_fill_d0a16 : ByteArray := prog_17_method_101_code
def yJ7_fill_d0a16 : MethodName := ⟨RJ7, "fill", "([JJ)V"⟩
abbrev cJ7_fill_53178 : ByteArray := prog_17_method_103_code
def yJ7_fill_53178 : MethodName := ⟨RJ7, "fill", "([II)V"⟩
def RJ3 : String := "jdk/internal/util/Preconditions"
def TJ3 : u_T := fun k => match k with
  | _ => ("", "", "", false)
def tyJ3 : Nat → FieldType := fun k => match k with
  | _ => .int
abbrev wsJ30 : List Cond := u_ws RJ3 TJ3 0
theorem nmJ3 : ∀ a, a < 0 → ∀ b, b < 0 → a ≠ b → (TJ3 a).2.1 ≠ (TJ3 b).2.1 := by decide +kernel
theorem tyJ3_ok : ∀ k, k < 0 → parseFieldDescriptor (TJ3 k).2.2.1 = some (tyJ3 k) := by decide +kernel
abbrev cJ3_checkIndex_8e157 : ByteArray := prog_18_method_11_code
def yJ3_checkIndex_8e157 : MethodName := ⟨RJ3, "checkIndex", "(IILjava/util/function/BiFunction;)I"⟩
abbrev cJ3_checkFromToIndex_8c36e : ByteArray := prog_18_method_12_code
def yJ3_checkFromToIndex_8c36e : MethodName := ⟨RJ3, "checkFromToIndex", "(IIILjava/util/function/BiFunction;)I"⟩
def RL : String := "WoundEggsLaw"
abbrev cL_law : ByteArray := code
def yL_law : MethodName := ⟨RL, "law", "([I)Z"⟩
abbrev vwCl : List vw_C := [(RX0, TX0, 5), (RX1, TX1, 2), (RX2, TX2, 8), (RX3, TX3, 6), (RX4, TX4, 3), (RX5, TX5, 3), (RX6, TX6, 9), (RX7, TX7, 45)]
