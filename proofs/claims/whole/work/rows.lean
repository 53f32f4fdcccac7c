section
-- ===== PART A: goes FIRST, ahead of the names: the tables' words, and 'selects' of the private methods out of them =====
/-- a private method of a class that the tables say can be made, by its rows of tables_1 -/
def lw_okq (q : MethodName × Nat) : Prop := (q.1.cls ≠ "java/lang/invoke/MethodHandle" ∧ q.1.cls ≠ "java/lang/invoke/VarHandle") ∧ Cond.instantiable q.1.cls q.2 ∈ tables_1 ∧ Cond.privateMethod q.1 ∈ tables_1 ∧ Cond.instanceMethod q.1 ∈ tables_1
theorem lw_p0 : lw_okq (⟨"WitnessWall", "isWitness", "(I)Z"⟩, 9) := ⟨⟨by decide +kernel, by decide +kernel⟩, List.mem_of_getElem? (i := 15) (by decide +kernel), List.mem_of_getElem? (i := 357) (by decide +kernel), List.mem_of_getElem? (i := 358) (by decide +kernel)⟩
theorem lw_p1 : lw_okq (⟨"WitnessWall", "hasWall", "()Z"⟩, 9) := ⟨⟨by decide +kernel, by decide +kernel⟩, List.mem_of_getElem? (i := 15) (by decide +kernel), List.mem_of_getElem? (i := 413) (by decide +kernel), List.mem_of_getElem? (i := 414) (by decide +kernel)⟩
theorem lw_p2 : lw_okq (⟨"WitnessWallModel", "read", "()I"⟩, 48) := ⟨⟨by decide +kernel, by decide +kernel⟩, List.mem_of_getElem? (i := 631) (by decide +kernel), List.mem_of_getElem? (i := 798) (by decide +kernel), List.mem_of_getElem? (i := 799) (by decide +kernel)⟩
theorem lw_p3 : lw_okq (⟨"WitnessWallModel", "readWitnesses", "()I"⟩, 48) := ⟨⟨by decide +kernel, by decide +kernel⟩, List.mem_of_getElem? (i := 631) (by decide +kernel), List.mem_of_getElem? (i := 802) (by decide +kernel), List.mem_of_getElem? (i := 803) (by decide +kernel)⟩
theorem lw_p4 : lw_okq (⟨"WitnessWallModel", "at", "(I)I"⟩, 48) := ⟨⟨by decide +kernel, by decide +kernel⟩, List.mem_of_getElem? (i := 631) (by decide +kernel), List.mem_of_getElem? (i := 806) (by decide +kernel), List.mem_of_getElem? (i := 807) (by decide +kernel)⟩
theorem lw_p5 : lw_okq (⟨"WitnessWallModel", "readSights", "(II)I"⟩, 48) := ⟨⟨by decide +kernel, by decide +kernel⟩, List.mem_of_getElem? (i := 631) (by decide +kernel), List.mem_of_getElem? (i := 813) (by decide +kernel), List.mem_of_getElem? (i := 814) (by decide +kernel)⟩
theorem lw_p6 : lw_okq (⟨"WitnessWallModel", "isThing", "(I)Z"⟩, 48) := ⟨⟨by decide +kernel, by decide +kernel⟩, List.mem_of_getElem? (i := 631) (by decide +kernel), List.mem_of_getElem? (i := 817) (by decide +kernel), List.mem_of_getElem? (i := 818) (by decide +kernel)⟩
theorem lw_p7 : lw_okq (⟨"WitnessWallModel", "isDigit", "(III)Z"⟩, 48) := ⟨⟨by decide +kernel, by decide +kernel⟩, List.mem_of_getElem? (i := 631) (by decide +kernel), List.mem_of_getElem? (i := 821) (by decide +kernel), List.mem_of_getElem? (i := 822) (by decide +kernel)⟩
theorem lw_p8 : lw_okq (⟨"WitnessWallModel", "sightAt", "(I)I"⟩, 48) := ⟨⟨by decide +kernel, by decide +kernel⟩, List.mem_of_getElem? (i := 631) (by decide +kernel), List.mem_of_getElem? (i := 825) (by decide +kernel), List.mem_of_getElem? (i := 826) (by decide +kernel)⟩
theorem lw_p9 : lw_okq (⟨"WitnessWallModel", "isTold", "(II)Z"⟩, 48) := ⟨⟨by decide +kernel, by decide +kernel⟩, List.mem_of_getElem? (i := 631) (by decide +kernel), List.mem_of_getElem? (i := 829) (by decide +kernel), List.mem_of_getElem? (i := 830) (by decide +kernel)⟩
theorem lw_p10 : lw_okq (⟨"WitnessWallModel", "readCases", "(I)I"⟩, 48) := ⟨⟨by decide +kernel, by decide +kernel⟩, List.mem_of_getElem? (i := 631) (by decide +kernel), List.mem_of_getElem? (i := 833) (by decide +kernel), List.mem_of_getElem? (i := 834) (by decide +kernel)⟩
theorem lw_p11 : lw_okq (⟨"WitnessWallModel", "isWitness", "(I)Z"⟩, 48) := ⟨⟨by decide +kernel, by decide +kernel⟩, List.mem_of_getElem? (i := 631) (by decide +kernel), List.mem_of_getElem? (i := 845) (by decide +kernel), List.mem_of_getElem? (i := 846) (by decide +kernel)⟩
theorem lw_p12 : lw_okq (⟨"WitnessWallModel", "witnessNow", "(II)I"⟩, 48) := ⟨⟨by decide +kernel, by decide +kernel⟩, List.mem_of_getElem? (i := 631) (by decide +kernel), List.mem_of_getElem? (i := 849) (by decide +kernel), List.mem_of_getElem? (i := 850) (by decide +kernel)⟩
theorem lw_p13 : lw_okq (⟨"WitnessWallModel", "sortsOf", "(I)I"⟩, 48) := ⟨⟨by decide +kernel, by decide +kernel⟩, List.mem_of_getElem? (i := 631) (by decide +kernel), List.mem_of_getElem? (i := 853) (by decide +kernel), List.mem_of_getElem? (i := 854) (by decide +kernel)⟩
theorem lw_p14 : lw_okq (⟨"WitnessWallModel", "askOf", "(I)I"⟩, 48) := ⟨⟨by decide +kernel, by decide +kernel⟩, List.mem_of_getElem? (i := 631) (by decide +kernel), List.mem_of_getElem? (i := 860) (by decide +kernel), List.mem_of_getElem? (i := 861) (by decide +kernel)⟩
theorem lw_p15 : lw_okq (⟨"WitnessWallModel", "clashesOf", "(I)I"⟩, 48) := ⟨⟨by decide +kernel, by decide +kernel⟩, List.mem_of_getElem? (i := 631) (by decide +kernel), List.mem_of_getElem? (i := 871) (by decide +kernel), List.mem_of_getElem? (i := 872) (by decide +kernel)⟩
def lw_privs_1 : List (MethodName × Nat) := [(⟨"WitnessWall", "isWitness", "(I)Z"⟩, 9), (⟨"WitnessWall", "hasWall", "()Z"⟩, 9), (⟨"WitnessWallModel", "read", "()I"⟩, 48), (⟨"WitnessWallModel", "readWitnesses", "()I"⟩, 48), (⟨"WitnessWallModel", "at", "(I)I"⟩, 48), (⟨"WitnessWallModel", "readSights", "(II)I"⟩, 48), (⟨"WitnessWallModel", "isThing", "(I)Z"⟩, 48), (⟨"WitnessWallModel", "isDigit", "(III)Z"⟩, 48), (⟨"WitnessWallModel", "sightAt", "(I)I"⟩, 48), (⟨"WitnessWallModel", "isTold", "(II)Z"⟩, 48), (⟨"WitnessWallModel", "readCases", "(I)I"⟩, 48), (⟨"WitnessWallModel", "isWitness", "(I)Z"⟩, 48), (⟨"WitnessWallModel", "witnessNow", "(II)I"⟩, 48), (⟨"WitnessWallModel", "sortsOf", "(I)I"⟩, 48), (⟨"WitnessWallModel", "askOf", "(I)I"⟩, 48), (⟨"WitnessWallModel", "clashesOf", "(I)I"⟩, 48)]
theorem lw_r1 : ∀ q ∈ lw_privs_1, lw_okq q := List.forall_mem_cons.mpr ⟨lw_p0, List.forall_mem_cons.mpr ⟨lw_p1, List.forall_mem_cons.mpr ⟨lw_p2, List.forall_mem_cons.mpr ⟨lw_p3, List.forall_mem_cons.mpr ⟨lw_p4, List.forall_mem_cons.mpr ⟨lw_p5, List.forall_mem_cons.mpr ⟨lw_p6, List.forall_mem_cons.mpr ⟨lw_p7, List.forall_mem_cons.mpr ⟨lw_p8, List.forall_mem_cons.mpr ⟨lw_p9, List.forall_mem_cons.mpr ⟨lw_p10, List.forall_mem_cons.mpr ⟨lw_p11, List.forall_mem_cons.mpr ⟨lw_p12, List.forall_mem_cons.mpr ⟨lw_p13, List.forall_mem_cons.mpr ⟨lw_p14, List.forall_mem_cons.mpr ⟨lw_p15, fun _ h => absurd h List.not_mem_nil⟩⟩⟩⟩⟩⟩⟩⟩⟩⟩⟩⟩⟩⟩⟩⟩
theorem lw_p16 : lw_okq (⟨"WitnessWallModel", "clashesOfTwo", "(II)I"⟩, 48) := ⟨⟨by decide +kernel, by decide +kernel⟩, List.mem_of_getElem? (i := 631) (by decide +kernel), List.mem_of_getElem? (i := 875) (by decide +kernel), List.mem_of_getElem? (i := 876) (by decide +kernel)⟩
theorem lw_p17 : lw_okq (⟨"WitnessWallModel", "hasThing", "(II)Z"⟩, 48) := ⟨⟨by decide +kernel, by decide +kernel⟩, List.mem_of_getElem? (i := 631) (by decide +kernel), List.mem_of_getElem? (i := 879) (by decide +kernel), List.mem_of_getElem? (i := 880) (by decide +kernel)⟩
theorem lw_p18 : lw_okq (⟨"WitnessWallModel", "tellsNow", "(II)I"⟩, 48) := ⟨⟨by decide +kernel, by decide +kernel⟩, List.mem_of_getElem? (i := 631) (by decide +kernel), List.mem_of_getElem? (i := 883) (by decide +kernel), List.mem_of_getElem? (i := 884) (by decide +kernel)⟩
theorem lw_p19 : lw_okq (⟨"WitnessWallModel", "everybody", "()I"⟩, 48) := ⟨⟨by decide +kernel, by decide +kernel⟩, List.mem_of_getElem? (i := 631) (by decide +kernel), List.mem_of_getElem? (i := 899) (by decide +kernel), List.mem_of_getElem? (i := 900) (by decide +kernel)⟩
theorem lw_p20 : lw_okq (⟨"WitnessWallModel", "saidBy", "(II)I"⟩, 48) := ⟨⟨by decide +kernel, by decide +kernel⟩, List.mem_of_getElem? (i := 631) (by decide +kernel), List.mem_of_getElem? (i := 903) (by decide +kernel), List.mem_of_getElem? (i := 904) (by decide +kernel)⟩
theorem lw_p21 : lw_okq (⟨"WitnessWallModel", "has", "(II)Z"⟩, 48) := ⟨⟨by decide +kernel, by decide +kernel⟩, List.mem_of_getElem? (i := 631) (by decide +kernel), List.mem_of_getElem? (i := 914) (by decide +kernel), List.mem_of_getElem? (i := 915) (by decide +kernel)⟩
theorem lw_p22 : lw_okq (⟨"WitnessWallModel", "showNow", "(II)Z"⟩, 48) := ⟨⟨by decide +kernel, by decide +kernel⟩, List.mem_of_getElem? (i := 631) (by decide +kernel), List.mem_of_getElem? (i := 922) (by decide +kernel), List.mem_of_getElem? (i := 923) (by decide +kernel)⟩
theorem lw_p23 : lw_okq (⟨"WitnessWallModel", "termNow", "(I)I"⟩, 48) := ⟨⟨by decide +kernel, by decide +kernel⟩, List.mem_of_getElem? (i := 631) (by decide +kernel), List.mem_of_getElem? (i := 948) (by decide +kernel), List.mem_of_getElem? (i := 949) (by decide +kernel)⟩
theorem lw_p24 : lw_okq (⟨"WitnessWallModel", "layTerm", "()V"⟩, 48) := ⟨⟨by decide +kernel, by decide +kernel⟩, List.mem_of_getElem? (i := 631) (by decide +kernel), List.mem_of_getElem? (i := 952) (by decide +kernel), List.mem_of_getElem? (i := 953) (by decide +kernel)⟩
theorem lw_p25 : lw_okq (⟨"WitnessWallModel", "lay", "()V"⟩, 48) := ⟨⟨by decide +kernel, by decide +kernel⟩, List.mem_of_getElem? (i := 631) (by decide +kernel), List.mem_of_getElem? (i := 956) (by decide +kernel), List.mem_of_getElem? (i := 957) (by decide +kernel)⟩
theorem lw_p26 : lw_okq (⟨"WitnessWallModel", "layBack", "()V"⟩, 48) := ⟨⟨by decide +kernel, by decide +kernel⟩, List.mem_of_getElem? (i := 631) (by decide +kernel), List.mem_of_getElem? (i := 960) (by decide +kernel), List.mem_of_getElem? (i := 961) (by decide +kernel)⟩
theorem lw_p27 : lw_okq (⟨"WitnessWallModel", "layMost", "()V"⟩, 48) := ⟨⟨by decide +kernel, by decide +kernel⟩, List.mem_of_getElem? (i := 631) (by decide +kernel), List.mem_of_getElem? (i := 964) (by decide +kernel), List.mem_of_getElem? (i := 965) (by decide +kernel)⟩
theorem lw_p28 : lw_okq (⟨"WitnessWallModel", "orderNow", "()I"⟩, 48) := ⟨⟨by decide +kernel, by decide +kernel⟩, List.mem_of_getElem? (i := 631) (by decide +kernel), List.mem_of_getElem? (i := 968) (by decide +kernel), List.mem_of_getElem? (i := 969) (by decide +kernel)⟩
theorem lw_p29 : lw_okq (⟨"WitnessWallModel", "keepSet", "()I"⟩, 48) := ⟨⟨by decide +kernel, by decide +kernel⟩, List.mem_of_getElem? (i := 631) (by decide +kernel), List.mem_of_getElem? (i := 976) (by decide +kernel), List.mem_of_getElem? (i := 977) (by decide +kernel)⟩
theorem lw_p30 : lw_okq (⟨"WitnessWallModel", "isSaidSo", "(I)Z"⟩, 48) := ⟨⟨by decide +kernel, by decide +kernel⟩, List.mem_of_getElem? (i := 631) (by decide +kernel), List.mem_of_getElem? (i := 980) (by decide +kernel), List.mem_of_getElem? (i := 981) (by decide +kernel)⟩
theorem lw_p31 : lw_okq (⟨"WitnessWallModel", "peaceSet", "()I"⟩, 48) := ⟨⟨by decide +kernel, by decide +kernel⟩, List.mem_of_getElem? (i := 631) (by decide +kernel), List.mem_of_getElem? (i := 988) (by decide +kernel), List.mem_of_getElem? (i := 989) (by decide +kernel)⟩
def lw_privs_2 : List (MethodName × Nat) := [(⟨"WitnessWallModel", "clashesOfTwo", "(II)I"⟩, 48), (⟨"WitnessWallModel", "hasThing", "(II)Z"⟩, 48), (⟨"WitnessWallModel", "tellsNow", "(II)I"⟩, 48), (⟨"WitnessWallModel", "everybody", "()I"⟩, 48), (⟨"WitnessWallModel", "saidBy", "(II)I"⟩, 48), (⟨"WitnessWallModel", "has", "(II)Z"⟩, 48), (⟨"WitnessWallModel", "showNow", "(II)Z"⟩, 48), (⟨"WitnessWallModel", "termNow", "(I)I"⟩, 48), (⟨"WitnessWallModel", "layTerm", "()V"⟩, 48), (⟨"WitnessWallModel", "lay", "()V"⟩, 48), (⟨"WitnessWallModel", "layBack", "()V"⟩, 48), (⟨"WitnessWallModel", "layMost", "()V"⟩, 48), (⟨"WitnessWallModel", "orderNow", "()I"⟩, 48), (⟨"WitnessWallModel", "keepSet", "()I"⟩, 48), (⟨"WitnessWallModel", "isSaidSo", "(I)Z"⟩, 48), (⟨"WitnessWallModel", "peaceSet", "()I"⟩, 48)]
theorem lw_r2 : ∀ q ∈ lw_privs_2, lw_okq q := List.forall_mem_cons.mpr ⟨lw_p16, List.forall_mem_cons.mpr ⟨lw_p17, List.forall_mem_cons.mpr ⟨lw_p18, List.forall_mem_cons.mpr ⟨lw_p19, List.forall_mem_cons.mpr ⟨lw_p20, List.forall_mem_cons.mpr ⟨lw_p21, List.forall_mem_cons.mpr ⟨lw_p22, List.forall_mem_cons.mpr ⟨lw_p23, List.forall_mem_cons.mpr ⟨lw_p24, List.forall_mem_cons.mpr ⟨lw_p25, List.forall_mem_cons.mpr ⟨lw_p26, List.forall_mem_cons.mpr ⟨lw_p27, List.forall_mem_cons.mpr ⟨lw_p28, List.forall_mem_cons.mpr ⟨lw_p29, List.forall_mem_cons.mpr ⟨lw_p30, List.forall_mem_cons.mpr ⟨lw_p31, fun _ h => absurd h List.not_mem_nil⟩⟩⟩⟩⟩⟩⟩⟩⟩⟩⟩⟩⟩⟩⟩⟩
theorem lw_p32 : lw_okq (⟨"WitnessWallModel", "clashesAmong", "(I)I"⟩, 48) := ⟨⟨by decide +kernel, by decide +kernel⟩, List.mem_of_getElem? (i := 631) (by decide +kernel), List.mem_of_getElem? (i := 992) (by decide +kernel), List.mem_of_getElem? (i := 993) (by decide +kernel)⟩
theorem lw_p33 : lw_okq (⟨"WitnessWallModel", "worldsNow", "(I)I"⟩, 48) := ⟨⟨by decide +kernel, by decide +kernel⟩, List.mem_of_getElem? (i := 631) (by decide +kernel), List.mem_of_getElem? (i := 1000) (by decide +kernel), List.mem_of_getElem? (i := 1001) (by decide +kernel)⟩
theorem lw_p34 : lw_okq (⟨"WitnessWallModel", "isWorld", "(II)Z"⟩, 48) := ⟨⟨by decide +kernel, by decide +kernel⟩, List.mem_of_getElem? (i := 631) (by decide +kernel), List.mem_of_getElem? (i := 1004) (by decide +kernel), List.mem_of_getElem? (i := 1005) (by decide +kernel)⟩
theorem lw_p35 : lw_okq (⟨"WitnessWallModel", "isWrong", "(II)Z"⟩, 48) := ⟨⟨by decide +kernel, by decide +kernel⟩, List.mem_of_getElem? (i := 631) (by decide +kernel), List.mem_of_getElem? (i := 1008) (by decide +kernel), List.mem_of_getElem? (i := 1009) (by decide +kernel)⟩
theorem lw_p36 : lw_okq (⟨"WitnessWallModel", "oddsNow", "(IIII)I"⟩, 48) := ⟨⟨by decide +kernel, by decide +kernel⟩, List.mem_of_getElem? (i := 631) (by decide +kernel), List.mem_of_getElem? (i := 1016) (by decide +kernel), List.mem_of_getElem? (i := 1017) (by decide +kernel)⟩
theorem lw_p37 : lw_okq (⟨"WitnessWallModel", "drawnNow", "(III)I"⟩, 48) := ⟨⟨by decide +kernel, by decide +kernel⟩, List.mem_of_getElem? (i := 631) (by decide +kernel), List.mem_of_getElem? (i := 1035) (by decide +kernel), List.mem_of_getElem? (i := 1036) (by decide +kernel)⟩
theorem lw_p38 : lw_okq (⟨"WitnessWallModel", "draw", "(I)I"⟩, 48) := ⟨⟨by decide +kernel, by decide +kernel⟩, List.mem_of_getElem? (i := 631) (by decide +kernel), List.mem_of_getElem? (i := 1039) (by decide +kernel), List.mem_of_getElem? (i := 1040) (by decide +kernel)⟩
theorem lw_p39 : lw_okq (⟨"WitnessWallModel", "howMany", "(I)I"⟩, 48) := ⟨⟨by decide +kernel, by decide +kernel⟩, List.mem_of_getElem? (i := 631) (by decide +kernel), List.mem_of_getElem? (i := 1059) (by decide +kernel), List.mem_of_getElem? (i := 1060) (by decide +kernel)⟩
theorem lw_p40 : lw_okq (⟨"WitnessWallModel", "sightsOfAll", "()I"⟩, 48) := ⟨⟨by decide +kernel, by decide +kernel⟩, List.mem_of_getElem? (i := 631) (by decide +kernel), List.mem_of_getElem? (i := 1063) (by decide +kernel), List.mem_of_getElem? (i := 1064) (by decide +kernel)⟩
theorem lw_p41 : lw_okq (⟨"WitnessWallModel", "mix", "(J)V"⟩, 48) := ⟨⟨by decide +kernel, by decide +kernel⟩, List.mem_of_getElem? (i := 631) (by decide +kernel), List.mem_of_getElem? (i := 1072) (by decide +kernel), List.mem_of_getElem? (i := 1073) (by decide +kernel)⟩
theorem lw_p42 : lw_okq (⟨"WitnessWallModel", "mixWall", "()V"⟩, 48) := ⟨⟨by decide +kernel, by decide +kernel⟩, List.mem_of_getElem? (i := 631) (by decide +kernel), List.mem_of_getElem? (i := 1077) (by decide +kernel), List.mem_of_getElem? (i := 1078) (by decide +kernel)⟩
def lw_privs_3 : List (MethodName × Nat) := [(⟨"WitnessWallModel", "clashesAmong", "(I)I"⟩, 48), (⟨"WitnessWallModel", "worldsNow", "(I)I"⟩, 48), (⟨"WitnessWallModel", "isWorld", "(II)Z"⟩, 48), (⟨"WitnessWallModel", "isWrong", "(II)Z"⟩, 48), (⟨"WitnessWallModel", "oddsNow", "(IIII)I"⟩, 48), (⟨"WitnessWallModel", "drawnNow", "(III)I"⟩, 48), (⟨"WitnessWallModel", "draw", "(I)I"⟩, 48), (⟨"WitnessWallModel", "howMany", "(I)I"⟩, 48), (⟨"WitnessWallModel", "sightsOfAll", "()I"⟩, 48), (⟨"WitnessWallModel", "mix", "(J)V"⟩, 48), (⟨"WitnessWallModel", "mixWall", "()V"⟩, 48)]
theorem lw_r3 : ∀ q ∈ lw_privs_3, lw_okq q := List.forall_mem_cons.mpr ⟨lw_p32, List.forall_mem_cons.mpr ⟨lw_p33, List.forall_mem_cons.mpr ⟨lw_p34, List.forall_mem_cons.mpr ⟨lw_p35, List.forall_mem_cons.mpr ⟨lw_p36, List.forall_mem_cons.mpr ⟨lw_p37, List.forall_mem_cons.mpr ⟨lw_p38, List.forall_mem_cons.mpr ⟨lw_p39, List.forall_mem_cons.mpr ⟨lw_p40, List.forall_mem_cons.mpr ⟨lw_p41, List.forall_mem_cons.mpr ⟨lw_p42, fun _ h => absurd h List.not_mem_nil⟩⟩⟩⟩⟩⟩⟩⟩⟩⟩⟩
def lw_privs : List (MethodName × Nat) := lw_privs_1 ++ (lw_privs_2 ++ (lw_privs_3))
def lw_tbl : List Cond := k2_sels lw_privs ++ tables_1
theorem lw_privs_ok : ∀ q ∈ lw_privs, lw_okq q := by
  show ∀ q ∈ lw_privs_1 ++ (lw_privs_2 ++ (lw_privs_3)), lw_okq q
  exact List.forall_mem_append.mpr ⟨lw_r1, List.forall_mem_append.mpr ⟨lw_r2, lw_r3⟩⟩
end
section
def RX0 : String := "WitnessWall$Cases"
def TX0 : u_T := fun k => match k with
  | 0 => ("WitnessWall$Cases", "things", "[I", true)
  | 1 => ("WitnessWall$Cases", "dues", "[I", true)
  | _ => ("WitnessWall$Cases", "size", "I", false)
def tyX0 : Nat → FieldType := fun k => match k with
  | 0 => .array .int
  | 1 => .array .int
  | _ => .int
abbrev wsX00 : List Cond := u_ws RX0 TX0 3
theorem nmX0 : ∀ a, a < 3 → ∀ b, b < 3 → a ≠ b → (TX0 a).2.1 ≠ (TX0 b).2.1 := by decide +kernel
theorem tyX0_ok : ∀ k, k < 3 → parseFieldDescriptor (TX0 k).2.2.1 = some (tyX0 k) := by decide +kernel
abbrev cX0_init : ByteArray := prog_2_method_1_code
def yX0_init : MethodName := ⟨RX0, "<init>", "()V"⟩
abbrev cX0_add : ByteArray := prog_2_method_2_code
def yX0_add : MethodName := ⟨RX0, "add", "(II)V"⟩
abbrev cX0_copyFrom : ByteArray := prog_2_method_3_code
def yX0_copyFrom : MethodName := ⟨RX0, "copyFrom", "(LWitnessWall$Cases;)V"⟩
def RX1 : String := "WitnessWall$Hall"
def TX1 : u_T := fun k => match k with
  | 0 => ("WitnessWall$Hall", "witnesses", "[LWitnessWall$Witness;", true)
  | 1 => ("WitnessWall$Hall", "tally", "[I", true)
  | _ => ("WitnessWall$Hall", "size", "I", false)
def tyX1 : Nat → FieldType := fun k => match k with
  | 0 => .array (.object "WitnessWall$Witness")
  | 1 => .array .int
  | _ => .int
abbrev wsX10 : List Cond := u_ws RX1 TX1 3
theorem nmX1 : ∀ a, a < 3 → ∀ b, b < 3 → a ≠ b → (TX1 a).2.1 ≠ (TX1 b).2.1 := by decide +kernel
theorem tyX1_ok : ∀ k, k < 3 → parseFieldDescriptor (TX1 k).2.2.1 = some (tyX1 k) := by decide +kernel
abbrev cX1_init : ByteArray := prog_3_method_1_code
def yX1_init : MethodName := ⟨RX1, "<init>", "()V"⟩
abbrev cX1_copyFrom : ByteArray := prog_3_method_2_code
def yX1_copyFrom : MethodName := ⟨RX1, "copyFrom", "(LWitnessWall$Hall;)V"⟩
abbrev cX1_add : ByteArray := prog_3_method_3_code
def yX1_add : MethodName := ⟨RX1, "add", "(I)V"⟩
abbrev cX1_everyone : ByteArray := prog_3_method_4_code
def yX1_everyone : MethodName := ⟨RX1, "everyone", "()I"⟩
abbrev cX1_havingSight : ByteArray := prog_3_method_5_code
def yX1_havingSight : MethodName := ⟨RX1, "havingSight", "(I)I"⟩
abbrev cX1_unlikeSights : ByteArray := prog_3_method_6_code
def yX1_unlikeSights : MethodName := ⟨RX1, "unlikeSights", "()I"⟩
abbrev cX1_saidAmong : ByteArray := prog_3_method_7_code
def yX1_saidAmong : MethodName := ⟨RX1, "saidAmong", "(II)I"⟩
abbrev cX1_countTellers : ByteArray := prog_3_method_8_code
def yX1_countTellers : MethodName := ⟨RX1, "countTellers", "(II)V"⟩
abbrev cX1_clashesBetween : ByteArray := prog_3_method_9_code
def yX1_clashesBetween : MethodName := ⟨RX1, "clashesBetween", "(II)I"⟩
abbrev cX1_clashesOf : ByteArray := prog_3_method_10_code
def yX1_clashesOf : MethodName := ⟨RX1, "clashesOf", "(I)I"⟩
abbrev cX1_clashesAmong : ByteArray := prog_3_method_11_code
def yX1_clashesAmong : MethodName := ⟨RX1, "clashesAmong", "(I)I"⟩
abbrev cX1_fewestToKeep : ByteArray := prog_3_method_12_code
def yX1_fewestToKeep : MethodName := ⟨RX1, "fewestToKeep", "()I"⟩
abbrev cX1_saysTheSame : ByteArray := prog_3_method_13_code
def yX1_saysTheSame : MethodName := ⟨RX1, "saysTheSame", "(I)Z"⟩
abbrev cX1_fewestToSendAway : ByteArray := prog_3_method_14_code
def yX1_fewestToSendAway : MethodName := ⟨RX1, "fewestToSendAway", "()I"⟩
abbrev cX1_wrongBy : ByteArray := prog_3_method_15_code
def yX1_wrongBy : MethodName := ⟨RX1, "wrongBy", "(II)I"⟩
def RX2 : String := "WitnessWall$Page"
def TX2 : u_T := fun k => match k with
  | 0 => ("WitnessWall$Page", "letters", "[I", true)
  | 1 => ("WitnessWall$Page", "hall", "LWitnessWall$Hall;", true)
  | 2 => ("WitnessWall$Page", "cases", "LWitnessWall$Cases;", true)
  | 3 => ("WitnessWall$Page", "size", "I", false)
  | 4 => ("WitnessWall$Page", "awaited", "I", false)
  | _ => ("WitnessWall$Page", "thing", "I", false)
def tyX2 : Nat → FieldType := fun k => match k with
  | 0 => .array .int
  | 1 => .object "WitnessWall$Hall"
  | 2 => .object "WitnessWall$Cases"
  | 3 => .int
  | 4 => .int
  | _ => .int
abbrev wsX20 : List Cond := u_ws RX2 TX2 6
theorem nmX2 : ∀ a, a < 6 → ∀ b, b < 6 → a ≠ b → (TX2 a).2.1 ≠ (TX2 b).2.1 := by decide +kernel
theorem tyX2_ok : ∀ k, k < 6 → parseFieldDescriptor (TX2 k).2.2.1 = some (tyX2 k) := by decide +kernel
abbrev cX2_init : ByteArray := prog_4_method_1_code
def yX2_init : MethodName := ⟨RX2, "<init>", "()V"⟩
abbrev cX2_write : ByteArray := prog_4_method_2_code
def yX2_write : MethodName := ⟨RX2, "write", "(I)V"⟩
abbrev cX2_read : ByteArray := prog_4_method_3_code
def yX2_read : MethodName := ⟨RX2, "read", "()I"⟩
abbrev cX2_isWhole : ByteArray := prog_4_method_4_code
def yX2_isWhole : MethodName := ⟨RX2, "isWhole", "()Z"⟩
abbrev cX2_accepts : ByteArray := prog_4_method_5_code
def yX2_accepts : MethodName := ⟨RX2, "accepts", "(I)Z"⟩
abbrev cX2_acceptsKind : ByteArray := prog_4_method_6_code
def yX2_acceptsKind : MethodName := ⟨RX2, "acceptsKind", "(I)Z"⟩
abbrev cX2_acceptsInWitness : ByteArray := prog_4_method_7_code
def yX2_acceptsInWitness : MethodName := ⟨RX2, "acceptsInWitness", "(I)Z"⟩
abbrev cX2_acceptsThing : ByteArray := prog_4_method_8_code
def yX2_acceptsThing : MethodName := ⟨RX2, "acceptsThing", "(II)Z"⟩
abbrev cX2_acceptsColour : ByteArray := prog_4_method_9_code
def yX2_acceptsColour : MethodName := ⟨RX2, "acceptsColour", "(I)Z"⟩
abbrev cX2_acceptsDue : ByteArray := prog_4_method_10_code
def yX2_acceptsDue : MethodName := ⟨RX2, "acceptsDue", "(I)Z"⟩
abbrev cX2_acceptsBehindCase : ByteArray := prog_4_method_11_code
def yX2_acceptsBehindCase : MethodName := ⟨RX2, "acceptsBehindCase", "(I)Z"⟩
abbrev cX2_latest : ByteArray := prog_4_method_12_code
def yX2_latest : MethodName := ⟨RX2, "latest", "()LWitnessWall$Witness;"⟩
def RX3 : String := "WitnessWall$Scene"
def TX3 : u_T := fun k => match k with
  | 0 => ("WitnessWall$Scene", "hall", "LWitnessWall$Hall;", true)
  | 1 => ("WitnessWall$Scene", "slips", "LWitnessWall$Slips;", true)
  | 2 => ("WitnessWall$Scene", "seen", "LWitnessWall$Seen;", true)
  | _ => ("WitnessWall$Scene", "shown", "I", false)
def tyX3 : Nat → FieldType := fun k => match k with
  | 0 => .object "WitnessWall$Hall"
  | 1 => .object "WitnessWall$Slips"
  | 2 => .object "WitnessWall$Seen"
  | _ => .int
abbrev wsX30 : List Cond := u_ws RX3 TX3 4
theorem nmX3 : ∀ a, a < 4 → ∀ b, b < 4 → a ≠ b → (TX3 a).2.1 ≠ (TX3 b).2.1 := by decide +kernel
theorem tyX3_ok : ∀ k, k < 4 → parseFieldDescriptor (TX3 k).2.2.1 = some (tyX3 k) := by decide +kernel
abbrev cX3_init : ByteArray := prog_5_method_1_code
def yX3_init : MethodName := ⟨RX3, "<init>", "()V"⟩
abbrev cX3_beginWith : ByteArray := prog_5_method_2_code
def yX3_beginWith : MethodName := ⟨RX3, "beginWith", "(LWitnessWall$Hall;)V"⟩
abbrev cX3_copyFrom : ByteArray := prog_5_method_3_code
def yX3_copyFrom : MethodName := ⟨RX3, "copyFrom", "(LWitnessWall$Scene;)V"⟩
def RX4 : String := "WitnessWall$Seen"
def TX4 : u_T := fun k => match k with
  | 0 => ("WitnessWall$Seen", "witnesses", "[I", true)
  | 1 => ("WitnessWall$Seen", "leaves", "[I", true)
  | _ => ("WitnessWall$Seen", "size", "I", false)
def tyX4 : Nat → FieldType := fun k => match k with
  | 0 => .array .int
  | 1 => .array .int
  | _ => .int
abbrev wsX40 : List Cond := u_ws RX4 TX4 3
theorem nmX4 : ∀ a, a < 3 → ∀ b, b < 3 → a ≠ b → (TX4 a).2.1 ≠ (TX4 b).2.1 := by decide +kernel
theorem tyX4_ok : ∀ k, k < 3 → parseFieldDescriptor (TX4 k).2.2.1 = some (tyX4 k) := by decide +kernel
abbrev cX4_init : ByteArray := prog_6_method_1_code
def yX4_init : MethodName := ⟨RX4, "<init>", "()V"⟩
abbrev cX4_add : ByteArray := prog_6_method_2_code
def yX4_add : MethodName := ⟨RX4, "add", "(IIZ)V"⟩
abbrev cX4_copyFrom : ByteArray := prog_6_method_3_code
def yX4_copyFrom : MethodName := ⟨RX4, "copyFrom", "(LWitnessWall$Seen;)V"⟩
abbrev cX4_sortsOf : ByteArray := prog_6_method_4_code
def yX4_sortsOf : MethodName := ⟨RX4, "sortsOf", "(I)I"⟩
abbrev cX4_askFor : ByteArray := prog_6_method_5_code
def yX4_askFor : MethodName := ⟨RX4, "askFor", "(I)I"⟩
def RX5 : String := "WitnessWall$Slips"
def TX5 : u_T := fun k => match k with
  | 0 => ("WitnessWall$Slips", "days", "[I", true)
  | 1 => ("WitnessWall$Slips", "witnesses", "[I", true)
  | 2 => ("WitnessWall$Slips", "sights", "[I", true)
  | _ => ("WitnessWall$Slips", "size", "I", false)
def tyX5 : Nat → FieldType := fun k => match k with
  | 0 => .array .int
  | 1 => .array .int
  | 2 => .array .int
  | _ => .int
abbrev wsX50 : List Cond := u_ws RX5 TX5 4
theorem nmX5 : ∀ a, a < 4 → ∀ b, b < 4 → a ≠ b → (TX5 a).2.1 ≠ (TX5 b).2.1 := by decide +kernel
theorem tyX5_ok : ∀ k, k < 4 → parseFieldDescriptor (TX5 k).2.2.1 = some (tyX5 k) := by decide +kernel
abbrev cX5_init : ByteArray := prog_7_method_1_code
def yX5_init : MethodName := ⟨RX5, "<init>", "()V"⟩
abbrev cX5_add : ByteArray := prog_7_method_2_code
def yX5_add : MethodName := ⟨RX5, "add", "(III)V"⟩
abbrev cX5_copyFrom : ByteArray := prog_7_method_3_code
def yX5_copyFrom : MethodName := ⟨RX5, "copyFrom", "(LWitnessWall$Slips;)V"⟩
abbrev cX5_comeIn : ByteArray := prog_7_method_4_code
def yX5_comeIn : MethodName := ⟨RX5, "comeIn", "(ILWitnessWall$Hall;)V"⟩
def RX6 : String := "WitnessWall$Term"
def TX6 : u_T := fun k => match k with
  | 0 => ("WitnessWall$Term", "winnable", "[I", true)
  | _ => ("WitnessWall$Term", "most", "[I", true)
def tyX6 : Nat → FieldType := fun k => match k with
  | 0 => .array .int
  | _ => .array .int
abbrev wsX60 : List Cond := u_ws RX6 TX6 2
theorem nmX6 : ∀ a, a < 2 → ∀ b, b < 2 → a ≠ b → (TX6 a).2.1 ≠ (TX6 b).2.1 := by decide +kernel
theorem tyX6_ok : ∀ k, k < 2 → parseFieldDescriptor (TX6 k).2.2.1 = some (tyX6 k) := by decide +kernel
abbrev cX6_init : ByteArray := prog_8_method_1_code
def yX6_init : MethodName := ⟨RX6, "<init>", "()V"⟩
abbrev cX6_goBy : ByteArray := prog_8_method_2_code
def yX6_goBy : MethodName := ⟨RX6, "goBy", "(LWitnessWall$Cases;LWitnessWall$Hall;LWitnessWall$Slips;)V"⟩
abbrev cX6_winnableOn : ByteArray := prog_8_method_3_code
def yX6_winnableOn : MethodName := ⟨RX6, "winnableOn", "(ILWitnessWall$Cases;LWitnessWall$Hall;)I"⟩
abbrev cX6_mostFrom : ByteArray := prog_8_method_4_code
def yX6_mostFrom : MethodName := ⟨RX6, "mostFrom", "(II)I"⟩
abbrev cX6_wonBy : ByteArray := prog_8_method_5_code
def yX6_wonBy : MethodName := ⟨RX6, "wonBy", "(III)I"⟩
abbrev cX6_mostWon : ByteArray := prog_8_method_6_code
def yX6_mostWon : MethodName := ⟨RX6, "mostWon", "()I"⟩
abbrev cX6_leastOrder : ByteArray := prog_8_method_7_code
def yX6_leastOrder : MethodName := ⟨RX6, "leastOrder", "()I"⟩
abbrev cX6_leastChoice : ByteArray := prog_8_method_8_code
def yX6_leastChoice : MethodName := ⟨RX6, "leastChoice", "(II)I"⟩
def RX7 : String := "WitnessWall$Witness"
def TX7 : u_T := fun k => match k with
  | 0 => ("WitnessWall$Witness", "sights", "[I", true)
  | 1 => ("WitnessWall$Witness", "size", "I", false)
  | _ => ("WitnessWall$Witness", "kind", "I", false)
def tyX7 : Nat → FieldType := fun k => match k with
  | 0 => .array .int
  | 1 => .int
  | _ => .int
abbrev wsX70 : List Cond := u_ws RX7 TX7 3
theorem nmX7 : ∀ a, a < 3 → ∀ b, b < 3 → a ≠ b → (TX7 a).2.1 ≠ (TX7 b).2.1 := by decide +kernel
theorem tyX7_ok : ∀ k, k < 3 → parseFieldDescriptor (TX7 k).2.2.1 = some (tyX7 k) := by decide +kernel
abbrev cX7_init : ByteArray := prog_9_method_1_code
def yX7_init : MethodName := ⟨RX7, "<init>", "()V"⟩
abbrev cX7_beginAs : ByteArray := prog_9_method_2_code
def yX7_beginAs : MethodName := ⟨RX7, "beginAs", "(I)V"⟩
abbrev cX7_copyFrom : ByteArray := prog_9_method_3_code
def yX7_copyFrom : MethodName := ⟨RX7, "copyFrom", "(LWitnessWall$Witness;)V"⟩
abbrev cX7_isSuch : ByteArray := prog_9_method_4_code
def yX7_isSuch : MethodName := ⟨RX7, "isSuch", "(I)Z"⟩
abbrev cX7_hasSight : ByteArray := prog_9_method_5_code
def yX7_hasSight : MethodName := ⟨RX7, "hasSight", "(I)Z"⟩
abbrev cX7_hasOtherColour : ByteArray := prog_9_method_6_code
def yX7_hasOtherColour : MethodName := ⟨RX7, "hasOtherColour", "(II)Z"⟩
abbrev cX7_sightAt : ByteArray := prog_9_method_7_code
def yX7_sightAt : MethodName := ⟨RX7, "sightAt", "(I)I"⟩
abbrev cX7_colourOf : ByteArray := prog_9_method_8_code
def yX7_colourOf : MethodName := ⟨RX7, "colourOf", "(I)I"⟩
abbrev cX7_meets : ByteArray := prog_9_method_9_code
def yX7_meets : MethodName := ⟨RX7, "meets", "(I)Z"⟩
abbrev cX7_add : ByteArray := prog_9_method_10_code
def yX7_add : MethodName := ⟨RX7, "add", "(I)V"⟩
abbrev cX7_dropBetween : ByteArray := prog_9_method_11_code
def yX7_dropBetween : MethodName := ⟨RX7, "dropBetween", "(II)V"⟩
def RX8 : String := "WitnessWall$Worlds"
def TX8 : u_T := fun k => match k with
  | 0 => ("WitnessWall$Worlds", "ways", "[I", true)
  | _ => ("WitnessWall$Worlds", "waysThen", "[I", true)
def tyX8 : Nat → FieldType := fun k => match k with
  | 0 => .array .int
  | _ => .array .int
abbrev wsX80 : List Cond := u_ws RX8 TX8 2
theorem nmX8 : ∀ a, a < 2 → ∀ b, b < 2 → a ≠ b → (TX8 a).2.1 ≠ (TX8 b).2.1 := by decide +kernel
theorem tyX8_ok : ∀ k, k < 2 → parseFieldDescriptor (TX8 k).2.2.1 = some (tyX8 k) := by decide +kernel
abbrev cX8_init : ByteArray := prog_10_method_1_code
def yX8_init : MethodName := ⟨RX8, "<init>", "()V"⟩
abbrev cX8_howMany : ByteArray := prog_10_method_2_code
def yX8_howMany : MethodName := ⟨RX8, "howMany", "(LWitnessWall$Hall;III)I"⟩
abbrev cX8_tellOf : ByteArray := prog_10_method_3_code
def yX8_tellOf : MethodName := ⟨RX8, "tellOf", "(LWitnessWall$Hall;II)V"⟩
def RX9 : String := "WitnessWall"
def TX9 : u_T := fun k => match k with
  | 0 => ("WitnessWall", "page", "LWitnessWall$Page;", true)
  | 1 => ("WitnessWall", "cases", "LWitnessWall$Cases;", true)
  | 2 => ("WitnessWall", "now", "LWitnessWall$Scene;", true)
  | 3 => ("WitnessWall", "kept", "LWitnessWall$Scene;", true)
  | 4 => ("WitnessWall", "trial", "LWitnessWall$Hall;", true)
  | 5 => ("WitnessWall", "days", "LWitnessWall$Term;", true)
  | 6 => ("WitnessWall", "counting", "LWitnessWall$Worlds;", true)
  | 7 => ("WitnessWall", "isKept", "Z", false)
  | _ => ("WitnessWall", "wallsRead", "I", false)
def tyX9 : Nat → FieldType := fun k => match k with
  | 0 => .object "WitnessWall$Page"
  | 1 => .object "WitnessWall$Cases"
  | 2 => .object "WitnessWall$Scene"
  | 3 => .object "WitnessWall$Scene"
  | 4 => .object "WitnessWall$Hall"
  | 5 => .object "WitnessWall$Term"
  | 6 => .object "WitnessWall$Worlds"
  | 7 => .boolean
  | _ => .int
abbrev wsX90 : List Cond := u_ws RX9 TX9 9
theorem nmX9 : ∀ a, a < 9 → ∀ b, b < 9 → a ≠ b → (TX9 a).2.1 ≠ (TX9 b).2.1 := by decide +kernel
theorem tyX9_ok : ∀ k, k < 9 → parseFieldDescriptor (TX9 k).2.2.1 = some (tyX9 k) := by decide +kernel
abbrev cX9_init : ByteArray := prog_1_method_1_code
def yX9_init : MethodName := ⟨RX9, "<init>", "()V"⟩
abbrev cX9_letter : ByteArray := prog_1_method_2_code
def yX9_letter : MethodName := ⟨RX9, "letter", "(I)I"⟩
abbrev cX9_blank : ByteArray := prog_1_method_3_code
def yX9_blank : MethodName := ⟨RX9, "blank", "()I"⟩
abbrev cX9_fault : ByteArray := prog_1_method_4_code
def yX9_fault : MethodName := ⟨RX9, "fault", "()I"⟩
abbrev cX9_wall : ByteArray := prog_1_method_5_code
def yX9_wall : MethodName := ⟨RX9, "wall", "()I"⟩
abbrev cX9_witness : ByteArray := prog_1_method_6_code
def yX9_witness : MethodName := ⟨RX9, "witness", "(II)I"⟩
abbrev cX9_as : ByteArray := prog_1_method_7_code
def yX9_as : MethodName := ⟨RX9, "as", "(II)I"⟩
abbrev cX9_tells : ByteArray := prog_1_method_8_code
def yX9_tells : MethodName := ⟨RX9, "tells", "(II)I"⟩
abbrev cX9_said : ByteArray := prog_1_method_9_code
def yX9_said : MethodName := ⟨RX9, "said", "(I)I"⟩
abbrev cX9_having : ByteArray := prog_1_method_10_code
def yX9_having : MethodName := ⟨RX9, "having", "(II)I"⟩
abbrev cX9_show : ByteArray := prog_1_method_11_code
def yX9_show : MethodName := ⟨RX9, "show", "(III)I"⟩
abbrev cX9_be : ByteArray := prog_1_method_12_code
def yX9_be : MethodName := ⟨RX9, "be", "(II)I"⟩
abbrev cX9_slip : ByteArray := prog_1_method_13_code
def yX9_slip : MethodName := ⟨RX9, "slip", "(IIII)I"⟩
abbrev cX9_tear : ByteArray := prog_1_method_14_code
def yX9_tear : MethodName := ⟨RX9, "tear", "()I"⟩
abbrev cX9_term : ByteArray := prog_1_method_15_code
def yX9_term : MethodName := ⟨RX9, "term", "(I)I"⟩
abbrev cX9_keep : ByteArray := prog_1_method_16_code
def yX9_keep : MethodName := ⟨RX9, "keep", "(I)I"⟩
abbrev cX9_peace : ByteArray := prog_1_method_17_code
def yX9_peace : MethodName := ⟨RX9, "peace", "(I)I"⟩
abbrev cX9_worlds : ByteArray := prog_1_method_18_code
def yX9_worlds : MethodName := ⟨RX9, "worlds", "(I)I"⟩
abbrev cX9_odds : ByteArray := prog_1_method_19_code
def yX9_odds : MethodName := ⟨RX9, "odds", "(IIII)I"⟩
abbrev cX9_see : ByteArray := prog_1_method_20_code
def yX9_see : MethodName := ⟨RX9, "see", "(IIZ)I"⟩
abbrev cX9_forget : ByteArray := prog_1_method_21_code
def yX9_forget : MethodName := ⟨RX9, "forget", "()I"⟩
abbrev cX9_drawn : ByteArray := prog_1_method_22_code
def yX9_drawn : MethodName := ⟨RX9, "drawn", "(III)I"⟩
abbrev cX9_image : ByteArray := prog_1_method_23_code
def yX9_image : MethodName := ⟨RX9, "image", "()I"⟩
abbrev cX9_restore : ByteArray := prog_1_method_24_code
def yX9_restore : MethodName := ⟨RX9, "restore", "()I"⟩
abbrev cX9_count : ByteArray := prog_1_method_25_code
def yX9_count : MethodName := ⟨RX9, "count", "(I)I"⟩
abbrev cX9_digest : ByteArray := prog_1_method_26_code
def yX9_digest : MethodName := ⟨RX9, "digest", "()J"⟩
abbrev cX9_hasWall : ByteArray := prog_1_method_27_code
def yX9_hasWall : MethodName := ⟨RX9, "hasWall", "()Z"⟩
abbrev cX9_isWitness : ByteArray := prog_1_method_28_code
def yX9_isWitness : MethodName := ⟨RX9, "isWitness", "(I)Z"⟩
abbrev cX9_isThing : ByteArray := prog_1_method_29_code
def yX9_isThing : MethodName := ⟨RX9, "isThing", "(I)Z"⟩
abbrev cX9_isColour : ByteArray := prog_1_method_30_code
def yX9_isColour : MethodName := ⟨RX9, "isColour", "(I)Z"⟩
abbrev cX9_isWithin : ByteArray := prog_1_method_31_code
def yX9_isWithin : MethodName := ⟨RX9, "isWithin", "(III)Z"⟩
abbrev cX9_seedAfter : ByteArray := prog_1_method_32_code
def yX9_seedAfter : MethodName := ⟨RX9, "seedAfter", "(I)I"⟩
abbrev cX9_drawOf : ByteArray := prog_1_method_33_code
def yX9_drawOf : MethodName := ⟨RX9, "drawOf", "(II)I"⟩
abbrev cX9_commonMeasure : ByteArray := prog_1_method_34_code
def yX9_commonMeasure : MethodName := ⟨RX9, "commonMeasure", "(II)I"⟩
def RX10 : String := "WitnessWallModel"
def TX10 : u_T := fun k => match k with
  | 0 => ("WitnessWallModel", "walls", "I", false)
  | 1 => ("WitnessWallModel", "witnesses", "I", false)
  | 2 => ("WitnessWallModel", "kindOf", "[I", true)
  | 3 => ("WitnessWallModel", "head", "[I", true)
  | 4 => ("WitnessWallModel", "heads", "[I", true)
  | 5 => ("WitnessWallModel", "cases", "I", false)
  | 6 => ("WitnessWallModel", "caseThing", "[I", true)
  | 7 => ("WitnessWallModel", "caseDue", "[I", true)
  | 8 => ("WitnessWallModel", "slips", "I", false)
  | 9 => ("WitnessWallModel", "slipDay", "[I", true)
  | 10 => ("WitnessWallModel", "slipWitness", "[I", true)
  | 11 => ("WitnessWallModel", "slipSight", "[I", true)
  | 12 => ("WitnessWallModel", "shown", "I", false)
  | 13 => ("WitnessWallModel", "seen", "I", false)
  | 14 => ("WitnessWallModel", "seenWitness", "[I", true)
  | 15 => ("WitnessWallModel", "seenWhat", "[I", true)
  | 16 => ("WitnessWallModel", "seenCould", "[I", true)
  | 17 => ("WitnessWallModel", "pageLength", "I", false)
  | 18 => ("WitnessWallModel", "page", "[B", true)
  | 19 => ("WitnessWallModel", "isWhole", "Z", false)
  | 20 => ("WitnessWallModel", "newWitnesses", "I", false)
  | 21 => ("WitnessWallModel", "newCases", "I", false)
  | 22 => ("WitnessWallModel", "newKind", "[I", true)
  | 23 => ("WitnessWallModel", "newHead", "[I", true)
  | 24 => ("WitnessWallModel", "newHeads", "[I", true)
  | 25 => ("WitnessWallModel", "newThing", "[I", true)
  | 26 => ("WitnessWallModel", "newDue", "[I", true)
  | 27 => ("WitnessWallModel", "isBroken", "Z", false)
  | 28 => ("WitnessWallModel", "savedHead", "[I", true)
  | 29 => ("WitnessWallModel", "savedHeads", "[I", true)
  | 30 => ("WitnessWallModel", "wonOn", "[I", true)
  | 31 => ("WitnessWallModel", "mostFrom", "[I", true)
  | 32 => ("WitnessWallModel", "seedNow", "J", false)
  | 33 => ("WitnessWallModel", "isKept", "Z", false)
  | 34 => ("WitnessWallModel", "keptWall", "I", false)
  | 35 => ("WitnessWallModel", "keptSlips", "I", false)
  | 36 => ("WitnessWallModel", "keptShown", "I", false)
  | 37 => ("WitnessWallModel", "keptSeen", "I", false)
  | 38 => ("WitnessWallModel", "keptKind", "[I", true)
  | 39 => ("WitnessWallModel", "keptHead", "[I", true)
  | 40 => ("WitnessWallModel", "keptHeads", "[I", true)
  | 41 => ("WitnessWallModel", "keptDay", "[I", true)
  | 42 => ("WitnessWallModel", "keptWho", "[I", true)
  | 43 => ("WitnessWallModel", "keptSight", "[I", true)
  | 44 => ("WitnessWallModel", "keptWitness", "[I", true)
  | 45 => ("WitnessWallModel", "keptWhat", "[I", true)
  | 46 => ("WitnessWallModel", "keptCould", "[I", true)
  | _ => ("WitnessWallModel", "h", "J", false)
def tyX10 : Nat → FieldType := fun k => match k with
  | 0 => .int
  | 1 => .int
  | 2 => .array .int
  | 3 => .array .int
  | 4 => .array .int
  | 5 => .int
  | 6 => .array .int
  | 7 => .array .int
  | 8 => .int
  | 9 => .array .int
  | 10 => .array .int
  | 11 => .array .int
  | 12 => .int
  | 13 => .int
  | 14 => .array .int
  | 15 => .array .int
  | 16 => .array .int
  | 17 => .int
  | 18 => .array .byte
  | 19 => .boolean
  | 20 => .int
  | 21 => .int
  | 22 => .array .int
  | 23 => .array .int
  | 24 => .array .int
  | 25 => .array .int
  | 26 => .array .int
  | 27 => .boolean
  | 28 => .array .int
  | 29 => .array .int
  | 30 => .array .int
  | 31 => .array .int
  | 32 => .long
  | 33 => .boolean
  | 34 => .int
  | 35 => .int
  | 36 => .int
  | 37 => .int
  | 38 => .array .int
  | 39 => .array .int
  | 40 => .array .int
  | 41 => .array .int
  | 42 => .array .int
  | 43 => .array .int
  | 44 => .array .int
  | 45 => .array .int
  | 46 => .array .int
  | _ => .long
abbrev wsX100 : List Cond := u_ws RX10 TX10 48
theorem nmX10 : ∀ a, a < 48 → ∀ b, b < 48 → a ≠ b → (TX10 a).2.1 ≠ (TX10 b).2.1 := by decide +kernel
theorem tyX10_ok : ∀ k, k < 48 → parseFieldDescriptor (TX10 k).2.2.1 = some (tyX10 k) := by decide +kernel
abbrev cX10_init : ByteArray := prog_12_method_1_code
def yX10_init : MethodName := ⟨RX10, "<init>", "()V"⟩
abbrev cX10_within : ByteArray := prog_12_method_3_code
def yX10_within : MethodName := ⟨RX10, "within", "(III)Z"⟩
abbrev cX10_isIn : ByteArray := prog_12_method_4_code
def yX10_isIn : MethodName := ⟨RX10, "isIn", "(II)Z"⟩
abbrev cX10_size : ByteArray := prog_12_method_5_code
def yX10_size : MethodName := ⟨RX10, "size", "(I)I"⟩
abbrev cX10_divisor : ByteArray := prog_12_method_6_code
def yX10_divisor : MethodName := ⟨RX10, "divisor", "(II)I"⟩
abbrev cX10_letter : ByteArray := prog_12_method_7_code
def yX10_letter : MethodName := ⟨RX10, "letter", "(I)I"⟩
abbrev cX10_blank : ByteArray := prog_12_method_8_code
def yX10_blank : MethodName := ⟨RX10, "blank", "()I"⟩
abbrev cX10_kindBy : ByteArray := prog_12_method_9_code
def yX10_kindBy : MethodName := ⟨RX10, "kindBy", "(I)I"⟩
abbrev cX10_at : ByteArray := prog_12_method_10_code
def yX10_at : MethodName := ⟨RX10, "at", "(I)I"⟩
abbrev cX10_isThing : ByteArray := prog_12_method_11_code
def yX10_isThing : MethodName := ⟨RX10, "isThing", "(I)Z"⟩
abbrev cX10_isDigit : ByteArray := prog_12_method_12_code
def yX10_isDigit : MethodName := ⟨RX10, "isDigit", "(III)Z"⟩
abbrev cX10_sightAt : ByteArray := prog_12_method_13_code
def yX10_sightAt : MethodName := ⟨RX10, "sightAt", "(I)I"⟩
abbrev cX10_isTold : ByteArray := prog_12_method_14_code
def yX10_isTold : MethodName := ⟨RX10, "isTold", "(II)Z"⟩
abbrev cX10_readSights : ByteArray := prog_12_method_15_code
def yX10_readSights : MethodName := ⟨RX10, "readSights", "(II)I"⟩
abbrev cX10_readWitnesses : ByteArray := prog_12_method_16_code
def yX10_readWitnesses : MethodName := ⟨RX10, "readWitnesses", "()I"⟩
abbrev cX10_readCases : ByteArray := prog_12_method_17_code
def yX10_readCases : MethodName := ⟨RX10, "readCases", "(I)I"⟩
abbrev cX10_read : ByteArray := prog_12_method_18_code
def yX10_read : MethodName := ⟨RX10, "read", "()I"⟩
abbrev cX10_fault : ByteArray := prog_12_method_19_code
def yX10_fault : MethodName := ⟨RX10, "fault", "()I"⟩
abbrev cX10_wall : ByteArray := prog_12_method_20_code
def yX10_wall : MethodName := ⟨RX10, "wall", "()I"⟩
abbrev cX10_isWitness : ByteArray := prog_12_method_21_code
def yX10_isWitness : MethodName := ⟨RX10, "isWitness", "(I)Z"⟩
abbrev cX10_isSight : ByteArray := prog_12_method_22_code
def yX10_isSight : MethodName := ⟨RX10, "isSight", "(II)Z"⟩
abbrev cX10_tellsNow : ByteArray := prog_12_method_23_code
def yX10_tellsNow : MethodName := ⟨RX10, "tellsNow", "(II)I"⟩
abbrev cX10_hasThing : ByteArray := prog_12_method_24_code
def yX10_hasThing : MethodName := ⟨RX10, "hasThing", "(II)Z"⟩
abbrev cX10_clashesOfTwo : ByteArray := prog_12_method_25_code
def yX10_clashesOfTwo : MethodName := ⟨RX10, "clashesOfTwo", "(II)I"⟩
abbrev cX10_clashesOf : ByteArray := prog_12_method_26_code
def yX10_clashesOf : MethodName := ⟨RX10, "clashesOf", "(I)I"⟩
abbrev cX10_clashesAmong : ByteArray := prog_12_method_27_code
def yX10_clashesAmong : MethodName := ⟨RX10, "clashesAmong", "(I)I"⟩
abbrev cX10_everybody : ByteArray := prog_12_method_28_code
def yX10_everybody : MethodName := ⟨RX10, "everybody", "()I"⟩
abbrev cX10_saidBy : ByteArray := prog_12_method_29_code
def yX10_saidBy : MethodName := ⟨RX10, "saidBy", "(II)I"⟩
abbrev cX10_witnessNow : ByteArray := prog_12_method_30_code
def yX10_witnessNow : MethodName := ⟨RX10, "witnessNow", "(II)I"⟩
abbrev cX10_witness : ByteArray := prog_12_method_31_code
def yX10_witness : MethodName := ⟨RX10, "witness", "(II)I"⟩
abbrev cX10_as : ByteArray := prog_12_method_32_code
def yX10_as : MethodName := ⟨RX10, "as", "(II)I"⟩
abbrev cX10_tells : ByteArray := prog_12_method_33_code
def yX10_tells : MethodName := ⟨RX10, "tells", "(II)I"⟩
abbrev cX10_said : ByteArray := prog_12_method_34_code
def yX10_said : MethodName := ⟨RX10, "said", "(I)I"⟩
abbrev cX10_has : ByteArray := prog_12_method_35_code
def yX10_has : MethodName := ⟨RX10, "has", "(II)Z"⟩
abbrev cX10_having : ByteArray := prog_12_method_36_code
def yX10_having : MethodName := ⟨RX10, "having", "(II)I"⟩
abbrev cX10_takes : ByteArray := prog_12_method_37_code
def yX10_takes : MethodName := ⟨RX10, "takes", "(IZ)Z"⟩
abbrev cX10_goes : ByteArray := prog_12_method_38_code
def yX10_goes : MethodName := ⟨RX10, "goes", "(III)Z"⟩
abbrev cX10_showNow : ByteArray := prog_12_method_39_code
def yX10_showNow : MethodName := ⟨RX10, "showNow", "(II)Z"⟩
abbrev cX10_show : ByteArray := prog_12_method_40_code
def yX10_show : MethodName := ⟨RX10, "show", "(III)I"⟩
abbrev cX10_be : ByteArray := prog_12_method_41_code
def yX10_be : MethodName := ⟨RX10, "be", "(II)I"⟩
abbrev cX10_slip : ByteArray := prog_12_method_42_code
def yX10_slip : MethodName := ⟨RX10, "slip", "(IIII)I"⟩
abbrev cX10_tear : ByteArray := prog_12_method_43_code
def yX10_tear : MethodName := ⟨RX10, "tear", "()I"⟩
abbrev cX10_lay : ByteArray := prog_12_method_44_code
def yX10_lay : MethodName := ⟨RX10, "lay", "()V"⟩
abbrev cX10_layBack : ByteArray := prog_12_method_45_code
def yX10_layBack : MethodName := ⟨RX10, "layBack", "()V"⟩
abbrev cX10_layTerm : ByteArray := prog_12_method_46_code
def yX10_layTerm : MethodName := ⟨RX10, "layTerm", "()V"⟩
abbrev cX10_layMost : ByteArray := prog_12_method_47_code
def yX10_layMost : MethodName := ⟨RX10, "layMost", "()V"⟩
abbrev cX10_orderNow : ByteArray := prog_12_method_48_code
def yX10_orderNow : MethodName := ⟨RX10, "orderNow", "()I"⟩
abbrev cX10_termNow : ByteArray := prog_12_method_49_code
def yX10_termNow : MethodName := ⟨RX10, "termNow", "(I)I"⟩
abbrev cX10_term : ByteArray := prog_12_method_50_code
def yX10_term : MethodName := ⟨RX10, "term", "(I)I"⟩
abbrev cX10_isSaidSo : ByteArray := prog_12_method_51_code
def yX10_isSaidSo : MethodName := ⟨RX10, "isSaidSo", "(I)Z"⟩
abbrev cX10_keepSet : ByteArray := prog_12_method_52_code
def yX10_keepSet : MethodName := ⟨RX10, "keepSet", "()I"⟩
abbrev cX10_keep : ByteArray := prog_12_method_53_code
def yX10_keep : MethodName := ⟨RX10, "keep", "(I)I"⟩
abbrev cX10_peaceSet : ByteArray := prog_12_method_54_code
def yX10_peaceSet : MethodName := ⟨RX10, "peaceSet", "()I"⟩
abbrev cX10_peace : ByteArray := prog_12_method_55_code
def yX10_peace : MethodName := ⟨RX10, "peace", "(I)I"⟩
abbrev cX10_isWrong : ByteArray := prog_12_method_56_code
def yX10_isWrong : MethodName := ⟨RX10, "isWrong", "(II)Z"⟩
abbrev cX10_isWorld : ByteArray := prog_12_method_57_code
def yX10_isWorld : MethodName := ⟨RX10, "isWorld", "(II)Z"⟩
abbrev cX10_worldsNow : ByteArray := prog_12_method_58_code
def yX10_worldsNow : MethodName := ⟨RX10, "worldsNow", "(I)I"⟩
abbrev cX10_worlds : ByteArray := prog_12_method_59_code
def yX10_worlds : MethodName := ⟨RX10, "worlds", "(I)I"⟩
abbrev cX10_oddsNow : ByteArray := prog_12_method_60_code
def yX10_oddsNow : MethodName := ⟨RX10, "oddsNow", "(IIII)I"⟩
abbrev cX10_odds : ByteArray := prog_12_method_61_code
def yX10_odds : MethodName := ⟨RX10, "odds", "(IIII)I"⟩
abbrev cX10_could : ByteArray := prog_12_method_62_code
def yX10_could : MethodName := ⟨RX10, "could", "(II)Z"⟩
abbrev cX10_see : ByteArray := prog_12_method_63_code
def yX10_see : MethodName := ⟨RX10, "see", "(IIZ)I"⟩
abbrev cX10_forget : ByteArray := prog_12_method_64_code
def yX10_forget : MethodName := ⟨RX10, "forget", "()I"⟩
abbrev cX10_sortsOf : ByteArray := prog_12_method_65_code
def yX10_sortsOf : MethodName := ⟨RX10, "sortsOf", "(I)I"⟩
abbrev cX10_askOf : ByteArray := prog_12_method_66_code
def yX10_askOf : MethodName := ⟨RX10, "askOf", "(I)I"⟩
abbrev cX10_draw : ByteArray := prog_12_method_67_code
def yX10_draw : MethodName := ⟨RX10, "draw", "(I)I"⟩
abbrev cX10_drawnNow : ByteArray := prog_12_method_68_code
def yX10_drawnNow : MethodName := ⟨RX10, "drawnNow", "(III)I"⟩
abbrev cX10_drawn : ByteArray := prog_12_method_69_code
def yX10_drawn : MethodName := ⟨RX10, "drawn", "(III)I"⟩
abbrev cX10_image : ByteArray := prog_12_method_70_code
def yX10_image : MethodName := ⟨RX10, "image", "()I"⟩
abbrev cX10_restore : ByteArray := prog_12_method_71_code
def yX10_restore : MethodName := ⟨RX10, "restore", "()I"⟩
abbrev cX10_sightsOfAll : ByteArray := prog_12_method_72_code
def yX10_sightsOfAll : MethodName := ⟨RX10, "sightsOfAll", "()I"⟩
abbrev cX10_howMany : ByteArray := prog_12_method_73_code
def yX10_howMany : MethodName := ⟨RX10, "howMany", "(I)I"⟩
abbrev cX10_count : ByteArray := prog_12_method_74_code
def yX10_count : MethodName := ⟨RX10, "count", "(I)I"⟩
abbrev cX10_mix : ByteArray := prog_12_method_75_code
def yX10_mix : MethodName := ⟨RX10, "mix", "(J)V"⟩
abbrev cX10_mixWall : ByteArray := prog_12_method_76_code
def yX10_mixWall : MethodName := ⟨RX10, "mixWall", "()V"⟩
abbrev cX10_digest : ByteArray := prog_12_method_77_code
def yX10_digest : MethodName := ⟨RX10, "digest", "()J"⟩
def RJ6 : String := "java/lang/Integer"
def TJ6 : u_T := fun k => match k with
  | _ => ("", "", "", false)
def tyJ6 : Nat → FieldType := fun k => match k with
  | _ => .int
abbrev wsJ60 : List Cond := u_ws RJ6 TJ6 0
theorem nmJ6 : ∀ a, a < 0 → ∀ b, b < 0 → a ≠ b → (TJ6 a).2.1 ≠ (TJ6 b).2.1 := by decide +kernel
theorem tyJ6_ok : ∀ k, k < 0 → parseFieldDescriptor (TJ6 k).2.2.1 = some (tyJ6 k) := by decide +kernel
abbrev cJ6_bitCount_0f7a4 : ByteArray := prog_13_method_49_code
def yJ6_bitCount_0f7a4 : MethodName := ⟨RJ6, "bitCount", "(I)I"⟩
def RJ9 : String := "java/lang/Math"
def TJ9 : u_T := fun k => match k with
  | _ => ("", "", "", false)
def tyJ9 : Nat → FieldType := fun k => match k with
  | _ => .int
abbrev wsJ90 : List Cond := u_ws RJ9 TJ9 0
theorem nmJ9 : ∀ a, a < 0 → ∀ b, b < 0 → a ≠ b → (TJ9 a).2.1 ≠ (TJ9 b).2.1 := by decide +kernel
theorem tyJ9_ok : ∀ k, k < 0 → parseFieldDescriptor (TJ9 k).2.2.1 = some (tyJ9 k) := by decide +kernel
abbrev cJ9_max_7cf53 : ByteArray := prog_14_method_65_code
def yJ9_max_7cf53 : MethodName := ⟨RJ9, "max", "(II)I"⟩
def RL : String := "WitnessWallLaw"
abbrev cL_law : ByteArray := code
def yL_law : MethodName := ⟨RL, "law", "([I)Z"⟩
abbrev vwCl : List vw_C := [(RX0, TX0, 3), (RX1, TX1, 3), (RX2, TX2, 6), (RX3, TX3, 4), (RX4, TX4, 3), (RX5, TX5, 4), (RX6, TX6, 2), (RX7, TX7, 3), (RX8, TX8, 2), (RX9, TX9, 9), (RX10, TX10, 48)]
end
section
def TG : List Cond := lw_tbl.filter goodWord
theorem tg {w : Cond} (h : w ∈ lw_tbl) (g : goodWord w = true) : w ∈ TG := List.mem_filter.mpr ⟨h, g⟩
theorem tl_1 {w : Cond} {i : Nat} (h0 : tables_1_1[i]? = some w) : w ∈ lw_tbl := by
  have h : w ∈ tables_1_1 := List.mem_of_getElem? h0
  exact List.mem_append_right _ (show w ∈ tables_1_1 ++ (tables_1_2 ++ (tables_1_3 ++ (tables_1_4 ++ tables_1_5))) from List.mem_append_left _ h)
theorem tg_1 {w : Cond} {i : Nat} (h : tables_1_1[i]? = some w) (g : goodWord w = true) : w ∈ TG := tg (tl_1 h) g
theorem tl_2 {w : Cond} {i : Nat} (h0 : tables_1_2[i]? = some w) : w ∈ lw_tbl := by
  have h : w ∈ tables_1_2 := List.mem_of_getElem? h0
  exact List.mem_append_right _ (show w ∈ tables_1_1 ++ (tables_1_2 ++ (tables_1_3 ++ (tables_1_4 ++ tables_1_5))) from List.mem_append_right _ (List.mem_append_left _ h))
theorem tg_2 {w : Cond} {i : Nat} (h : tables_1_2[i]? = some w) (g : goodWord w = true) : w ∈ TG := tg (tl_2 h) g
theorem tl_3 {w : Cond} {i : Nat} (h0 : tables_1_3[i]? = some w) : w ∈ lw_tbl := by
  have h : w ∈ tables_1_3 := List.mem_of_getElem? h0
  exact List.mem_append_right _ (show w ∈ tables_1_1 ++ (tables_1_2 ++ (tables_1_3 ++ (tables_1_4 ++ tables_1_5))) from List.mem_append_right _ (List.mem_append_right _ (List.mem_append_left _ h)))
theorem tg_3 {w : Cond} {i : Nat} (h : tables_1_3[i]? = some w) (g : goodWord w = true) : w ∈ TG := tg (tl_3 h) g
theorem tl_4 {w : Cond} {i : Nat} (h0 : tables_1_4[i]? = some w) : w ∈ lw_tbl := by
  have h : w ∈ tables_1_4 := List.mem_of_getElem? h0
  exact List.mem_append_right _ (show w ∈ tables_1_1 ++ (tables_1_2 ++ (tables_1_3 ++ (tables_1_4 ++ tables_1_5))) from List.mem_append_right _ (List.mem_append_right _ (List.mem_append_right _ (List.mem_append_left _ h))))
theorem tg_4 {w : Cond} {i : Nat} (h : tables_1_4[i]? = some w) (g : goodWord w = true) : w ∈ TG := tg (tl_4 h) g
theorem tl_5 {w : Cond} {i : Nat} (h0 : tables_1_5[i]? = some w) : w ∈ lw_tbl := by
  have h : w ∈ tables_1_5 := List.mem_of_getElem? h0
  exact List.mem_append_right _ (show w ∈ tables_1_1 ++ (tables_1_2 ++ (tables_1_3 ++ (tables_1_4 ++ tables_1_5))) from List.mem_append_right _ (List.mem_append_right _ (List.mem_append_right _ (List.mem_append_right _ (h)))))
theorem tg_5 {w : Cond} {i : Nat} (h : tables_1_5[i]? = some w) (g : goodWord w = true) : w ∈ TG := tg (tl_5 h) g
theorem tw_1_0 : (Cond.initialized "WitnessWallLaw") ∈ TG := tg_1 (i := 0) rfl rfl
theorem tw_1_1 : (Cond.initialized "WitnessWall") ∈ TG := tg_1 (i := 1) rfl rfl
theorem tw_1_2 : (Cond.initialized "WitnessWall$Page") ∈ TG := tg_1 (i := 2) rfl rfl
theorem tw_1_3 : (Cond.initialized "WitnessWall$Hall") ∈ TG := tg_1 (i := 3) rfl rfl
theorem tw_1_4 : (Cond.initialized "WitnessWall$Witness") ∈ TG := tg_1 (i := 4) rfl rfl
theorem tw_1_5 : (Cond.initialized "WitnessWall$Cases") ∈ TG := tg_1 (i := 5) rfl rfl
theorem tw_1_6 : (Cond.initialized "WitnessWall$Scene") ∈ TG := tg_1 (i := 6) rfl rfl
theorem tw_1_7 : (Cond.initialized "WitnessWall$Slips") ∈ TG := tg_1 (i := 7) rfl rfl
theorem tw_1_8 : (Cond.initialized "WitnessWall$Seen") ∈ TG := tg_1 (i := 8) rfl rfl
theorem tw_1_9 : (Cond.initialized "WitnessWall$Term") ∈ TG := tg_1 (i := 9) rfl rfl
theorem tw_1_10 : (Cond.initialized "WitnessWall$Worlds") ∈ TG := tg_1 (i := 10) rfl rfl
theorem tw_1_11 : (Cond.initialized "WitnessWallModel") ∈ TG := tg_1 (i := 11) rfl rfl
theorem tw_1_12 : (Cond.initialized "java/lang/Math") ∈ TG := tg_1 (i := 12) rfl rfl
theorem tw_1_13 : (Cond.initialized "java/lang/Integer") ∈ TG := tg_1 (i := 13) rfl rfl
theorem tw_1_14 : (Cond.classLink "WitnessWallLaw" 7 "WitnessWall") ∈ TG := tg_1 (i := 14) rfl rfl
theorem tw_1_15 : (Cond.instantiable "WitnessWall" 9) ∈ TG := tg_1 (i := 15) rfl rfl
theorem tw_1_16 : (Cond.methodLink "WitnessWallLaw" 9 yX9_init) ∈ TG := tg_1 (i := 16) rfl rfl
theorem tw_1_17 : (Cond.instanceMethod yX9_init) ∈ TG := tg_1 (i := 17) rfl rfl
theorem tw_1_18 : (Cond.code yX9_init cX9_init 1 none) ∈ TG := tg_1 (i := 18) rfl rfl
theorem tw_1_19 : (Cond.methodLink "WitnessWall" 3 objectInit) ∈ TG := tg_1 (i := 19) rfl rfl
theorem tw_1_20 : (Cond.instanceMethod objectInit) ∈ TG := tg_1 (i := 20) rfl rfl
theorem tw_1_21 : (Cond.code objectInit object_method_1_code 1 none) ∈ TG := tg_1 (i := 21) rfl rfl
theorem tw_1_22 : (Cond.classLink "WitnessWall" 9 "WitnessWall$Page") ∈ TG := tg_1 (i := 22) rfl rfl
theorem tw_1_23 : (Cond.instantiable "WitnessWall$Page" 6) ∈ TG := tg_1 (i := 23) rfl rfl
theorem tw_1_25 : (Cond.instanceMethod yX2_init) ∈ TG := tg_1 (i := 25) rfl rfl
theorem tw_1_26 : (Cond.code yX2_init cX2_init 1 none) ∈ TG := tg_1 (i := 26) rfl rfl
theorem tw_1_27 : (Cond.methodLink "WitnessWall$Page" 3 objectInit) ∈ TG := tg_1 (i := 27) rfl rfl
theorem tw_1_28 : (Cond.classLink "WitnessWall$Page" 15 "WitnessWall$Hall") ∈ TG := tg_1 (i := 28) rfl rfl
theorem tw_1_29 : (Cond.instantiable "WitnessWall$Hall" 3) ∈ TG := tg_1 (i := 29) rfl rfl
theorem tw_1_30 : (Cond.methodLink "WitnessWall$Page" 17 yX1_init) ∈ TG := tg_1 (i := 30) rfl rfl
theorem tw_1_31 : (Cond.instanceMethod yX1_init) ∈ TG := tg_1 (i := 31) rfl rfl
theorem tw_1_32 : (Cond.code yX1_init cX1_init 2 none) ∈ TG := tg_1 (i := 32) rfl rfl
theorem tw_1_33 : (Cond.methodLink "WitnessWall$Hall" 3 objectInit) ∈ TG := tg_1 (i := 33) rfl rfl
theorem tw_1_34 : (Cond.classLink "WitnessWall$Hall" 9 "WitnessWall$Witness") ∈ TG := tg_1 (i := 34) rfl rfl
theorem tw_1_36 : (Cond.instantiable "WitnessWall$Witness" 3) ∈ TG := tg_1 (i := 36) rfl rfl
theorem tw_1_38 : (Cond.instanceMethod yX7_init) ∈ TG := tg_1 (i := 38) rfl rfl
theorem tw_1_39 : (Cond.code yX7_init cX7_init 1 none) ∈ TG := tg_1 (i := 39) rfl rfl
theorem tw_1_40 : (Cond.methodLink "WitnessWall$Witness" 3 objectInit) ∈ TG := tg_1 (i := 40) rfl rfl
theorem tw_1_41 : (Cond.fieldLink "WitnessWall$Witness" 9 "WitnessWall$Witness" "sights" "[I") ∈ TG := tg_1 (i := 41) rfl rfl
theorem tw_1_42 : (Cond.fieldLink "WitnessWall$Witness" 19 "WitnessWall$Witness" "size" "I") ∈ TG := tg_1 (i := 42) rfl rfl
theorem tw_1_45 : (Cond.fieldLink "WitnessWall$Witness" 15 "WitnessWall$Witness" "kind" "I") ∈ TG := tg_1 (i := 45) rfl rfl
theorem tw_1_47 : (Cond.laysFinal "WitnessWall$Witness" "WitnessWall$Witness" "sights" "[I") ∈ TG := tg_1 (i := 47) rfl rfl
theorem tw_1_49 : (Cond.lays "WitnessWall$Witness" "WitnessWall$Witness" "size" "I") ∈ TG := tg_1 (i := 49) rfl rfl
theorem tw_1_51 : (Cond.lays "WitnessWall$Witness" "WitnessWall$Witness" "kind" "I") ∈ TG := tg_1 (i := 51) rfl rfl
theorem tw_1_54 : (Cond.arrayClass FieldType.int) ∈ TG := tg_1 (i := 54) rfl rfl
theorem tw_1_55 : (Cond.fieldLink "WitnessWall$Hall" 11 "WitnessWall$Hall" "witnesses" "[LWitnessWall$Witness;") ∈ TG := tg_1 (i := 55) rfl rfl
theorem tw_1_59 : (Cond.fieldLink "WitnessWall$Hall" 17 "WitnessWall$Hall" "tally" "[I") ∈ TG := tg_1 (i := 59) rfl rfl
theorem tw_1_60 : (Cond.fieldLink "WitnessWall$Hall" 22 "WitnessWall$Hall" "size" "I") ∈ TG := tg_1 (i := 60) rfl rfl
theorem tw_1_64 : (Cond.laysFinal "WitnessWall$Hall" "WitnessWall$Hall" "witnesses" "[LWitnessWall$Witness;") ∈ TG := tg_1 (i := 64) rfl rfl
theorem tw_1_66 : (Cond.laysFinal "WitnessWall$Hall" "WitnessWall$Hall" "tally" "[I") ∈ TG := tg_1 (i := 66) rfl rfl
theorem tw_1_68 : (Cond.lays "WitnessWall$Hall" "WitnessWall$Hall" "size" "I") ∈ TG := tg_1 (i := 68) rfl rfl
theorem tw_1_71 : (Cond.classLink "WitnessWall$Page" 22 "WitnessWall$Cases") ∈ TG := tg_1 (i := 71) rfl rfl
theorem tw_1_72 : (Cond.instantiable "WitnessWall$Cases" 3) ∈ TG := tg_1 (i := 72) rfl rfl
theorem tw_1_74 : (Cond.instanceMethod yX0_init) ∈ TG := tg_1 (i := 74) rfl rfl
theorem tw_1_75 : (Cond.code yX0_init cX0_init 1 none) ∈ TG := tg_1 (i := 75) rfl rfl
theorem tw_1_76 : (Cond.methodLink "WitnessWall$Cases" 3 objectInit) ∈ TG := tg_1 (i := 76) rfl rfl
theorem tw_1_77 : (Cond.fieldLink "WitnessWall$Cases" 9 "WitnessWall$Cases" "things" "[I") ∈ TG := tg_1 (i := 77) rfl rfl
theorem tw_1_79 : (Cond.fieldLink "WitnessWall$Cases" 15 "WitnessWall$Cases" "dues" "[I") ∈ TG := tg_1 (i := 79) rfl rfl
theorem tw_1_81 : (Cond.fieldLink "WitnessWall$Cases" 18 "WitnessWall$Cases" "size" "I") ∈ TG := tg_1 (i := 81) rfl rfl
theorem tw_1_85 : (Cond.laysFinal "WitnessWall$Cases" "WitnessWall$Cases" "things" "[I") ∈ TG := tg_1 (i := 85) rfl rfl
theorem tw_1_87 : (Cond.laysFinal "WitnessWall$Cases" "WitnessWall$Cases" "dues" "[I") ∈ TG := tg_1 (i := 87) rfl rfl
theorem tw_1_89 : (Cond.lays "WitnessWall$Cases" "WitnessWall$Cases" "size" "I") ∈ TG := tg_1 (i := 89) rfl rfl
theorem tw_1_92 : (Cond.fieldLink "WitnessWall$Page" 9 "WitnessWall$Page" "letters" "[I") ∈ TG := tg_1 (i := 92) rfl rfl
theorem tw_1_94 : (Cond.fieldLink "WitnessWall$Page" 18 "WitnessWall$Page" "hall" "LWitnessWall$Hall;") ∈ TG := tg_1 (i := 94) rfl rfl
theorem tw_1_96 : (Cond.fieldLink "WitnessWall$Page" 25 "WitnessWall$Page" "cases" "LWitnessWall$Cases;") ∈ TG := tg_1 (i := 96) rfl rfl
theorem tw_1_98 : (Cond.fieldLink "WitnessWall$Page" 29 "WitnessWall$Page" "size" "I") ∈ TG := tg_1 (i := 98) rfl rfl
theorem tw_1_100 : (Cond.fieldLink "WitnessWall$Page" 35 "WitnessWall$Page" "awaited" "I") ∈ TG := tg_1 (i := 100) rfl rfl
theorem tw_1_101 : (Cond.fieldLink "WitnessWall$Page" 79 "WitnessWall$Page" "thing" "I") ∈ TG := tg_1 (i := 101) rfl rfl
theorem tw_1_102 : (Cond.laysFinal "WitnessWall$Page" "WitnessWall$Page" "letters" "[I") ∈ TG := tg_1 (i := 102) rfl rfl
theorem tw_1_104 : (Cond.laysFinal "WitnessWall$Page" "WitnessWall$Page" "hall" "LWitnessWall$Hall;") ∈ TG := tg_1 (i := 104) rfl rfl
theorem tw_1_106 : (Cond.laysFinal "WitnessWall$Page" "WitnessWall$Page" "cases" "LWitnessWall$Cases;") ∈ TG := tg_1 (i := 106) rfl rfl
theorem tw_1_108 : (Cond.lays "WitnessWall$Page" "WitnessWall$Page" "size" "I") ∈ TG := tg_1 (i := 108) rfl rfl
theorem tw_1_110 : (Cond.lays "WitnessWall$Page" "WitnessWall$Page" "awaited" "I") ∈ TG := tg_1 (i := 110) rfl rfl
theorem tw_1_112 : (Cond.lays "WitnessWall$Page" "WitnessWall$Page" "thing" "I") ∈ TG := tg_1 (i := 112) rfl rfl
theorem tw_1_115 : (Cond.classLink "WitnessWall" 16 "WitnessWall$Cases") ∈ TG := tg_1 (i := 115) rfl rfl
theorem tw_1_117 : (Cond.classLink "WitnessWall" 23 "WitnessWall$Scene") ∈ TG := tg_1 (i := 117) rfl rfl
theorem tw_1_118 : (Cond.instantiable "WitnessWall$Scene" 4) ∈ TG := tg_1 (i := 118) rfl rfl
theorem tw_1_120 : (Cond.instanceMethod yX3_init) ∈ TG := tg_1 (i := 120) rfl rfl
theorem tw_1_121 : (Cond.code yX3_init cX3_init 1 none) ∈ TG := tg_1 (i := 121) rfl rfl
theorem tw_1_122 : (Cond.methodLink "WitnessWall$Scene" 1 objectInit) ∈ TG := tg_1 (i := 122) rfl rfl
theorem tw_1_123 : (Cond.classLink "WitnessWall$Scene" 7 "WitnessWall$Hall") ∈ TG := tg_1 (i := 123) rfl rfl
theorem tw_1_124 : (Cond.methodLink "WitnessWall$Scene" 9 yX1_init) ∈ TG := tg_1 (i := 124) rfl rfl
theorem tw_1_125 : (Cond.classLink "WitnessWall$Scene" 16 "WitnessWall$Slips") ∈ TG := tg_1 (i := 125) rfl rfl
theorem tw_1_126 : (Cond.instantiable "WitnessWall$Slips" 4) ∈ TG := tg_1 (i := 126) rfl rfl
theorem tw_1_128 : (Cond.instanceMethod yX5_init) ∈ TG := tg_1 (i := 128) rfl rfl
theorem tw_1_129 : (Cond.code yX5_init cX5_init 1 none) ∈ TG := tg_1 (i := 129) rfl rfl
theorem tw_1_130 : (Cond.methodLink "WitnessWall$Slips" 3 objectInit) ∈ TG := tg_1 (i := 130) rfl rfl
theorem tw_1_131 : (Cond.fieldLink "WitnessWall$Slips" 9 "WitnessWall$Slips" "days" "[I") ∈ TG := tg_1 (i := 131) rfl rfl
theorem tw_1_132 : (Cond.fieldLink "WitnessWall$Slips" 15 "WitnessWall$Slips" "witnesses" "[I") ∈ TG := tg_1 (i := 132) rfl rfl
theorem tw_1_133 : (Cond.fieldLink "WitnessWall$Slips" 18 "WitnessWall$Slips" "sights" "[I") ∈ TG := tg_1 (i := 133) rfl rfl
theorem tw_1_134 : (Cond.fieldLink "WitnessWall$Slips" 21 "WitnessWall$Slips" "size" "I") ∈ TG := tg_1 (i := 134) rfl rfl
theorem tw_1_137 : (Cond.laysFinal "WitnessWall$Slips" "WitnessWall$Slips" "days" "[I") ∈ TG := tg_1 (i := 137) rfl rfl
theorem tw_1_139 : (Cond.laysFinal "WitnessWall$Slips" "WitnessWall$Slips" "witnesses" "[I") ∈ TG := tg_1 (i := 139) rfl rfl
theorem tw_1_141 : (Cond.laysFinal "WitnessWall$Slips" "WitnessWall$Slips" "sights" "[I") ∈ TG := tg_1 (i := 141) rfl rfl
theorem tw_1_143 : (Cond.lays "WitnessWall$Slips" "WitnessWall$Slips" "size" "I") ∈ TG := tg_1 (i := 143) rfl rfl
theorem tw_1_146 : (Cond.classLink "WitnessWall$Scene" 23 "WitnessWall$Seen") ∈ TG := tg_1 (i := 146) rfl rfl
theorem tw_1_147 : (Cond.instantiable "WitnessWall$Seen" 3) ∈ TG := tg_1 (i := 147) rfl rfl
theorem tw_1_149 : (Cond.instanceMethod yX4_init) ∈ TG := tg_1 (i := 149) rfl rfl
theorem tw_1_150 : (Cond.code yX4_init cX4_init 1 none) ∈ TG := tg_1 (i := 150) rfl rfl
theorem tw_1_151 : (Cond.methodLink "WitnessWall$Seen" 3 objectInit) ∈ TG := tg_1 (i := 151) rfl rfl
theorem tw_1_152 : (Cond.fieldLink "WitnessWall$Seen" 9 "WitnessWall$Seen" "witnesses" "[I") ∈ TG := tg_1 (i := 152) rfl rfl
theorem tw_1_153 : (Cond.fieldLink "WitnessWall$Seen" 15 "WitnessWall$Seen" "leaves" "[I") ∈ TG := tg_1 (i := 153) rfl rfl
theorem tw_1_154 : (Cond.fieldLink "WitnessWall$Seen" 18 "WitnessWall$Seen" "size" "I") ∈ TG := tg_1 (i := 154) rfl rfl
theorem tw_1_157 : (Cond.laysFinal "WitnessWall$Seen" "WitnessWall$Seen" "witnesses" "[I") ∈ TG := tg_1 (i := 157) rfl rfl
theorem tw_1_159 : (Cond.laysFinal "WitnessWall$Seen" "WitnessWall$Seen" "leaves" "[I") ∈ TG := tg_1 (i := 159) rfl rfl
theorem tw_1_161 : (Cond.lays "WitnessWall$Seen" "WitnessWall$Seen" "size" "I") ∈ TG := tg_1 (i := 161) rfl rfl
theorem tw_1_164 : (Cond.fieldLink "WitnessWall$Scene" 10 "WitnessWall$Scene" "hall" "LWitnessWall$Hall;") ∈ TG := tg_1 (i := 164) rfl rfl
theorem tw_1_166 : (Cond.fieldLink "WitnessWall$Scene" 19 "WitnessWall$Scene" "slips" "LWitnessWall$Slips;") ∈ TG := tg_1 (i := 166) rfl rfl
theorem tw_1_168 : (Cond.fieldLink "WitnessWall$Scene" 26 "WitnessWall$Scene" "seen" "LWitnessWall$Seen;") ∈ TG := tg_1 (i := 168) rfl rfl
theorem tw_1_170 : (Cond.fieldLink "WitnessWall$Scene" 39 "WitnessWall$Scene" "shown" "I") ∈ TG := tg_1 (i := 170) rfl rfl
theorem tw_1_172 : (Cond.laysFinal "WitnessWall$Scene" "WitnessWall$Scene" "hall" "LWitnessWall$Hall;") ∈ TG := tg_1 (i := 172) rfl rfl
theorem tw_1_174 : (Cond.laysFinal "WitnessWall$Scene" "WitnessWall$Scene" "slips" "LWitnessWall$Slips;") ∈ TG := tg_1 (i := 174) rfl rfl
theorem tw_1_176 : (Cond.laysFinal "WitnessWall$Scene" "WitnessWall$Scene" "seen" "LWitnessWall$Seen;") ∈ TG := tg_1 (i := 176) rfl rfl
theorem tw_1_178 : (Cond.lays "WitnessWall$Scene" "WitnessWall$Scene" "shown" "I") ∈ TG := tg_1 (i := 178) rfl rfl
theorem tw_1_181 : (Cond.classLink "WitnessWall" 33 "WitnessWall$Hall") ∈ TG := tg_1 (i := 181) rfl rfl
theorem tw_1_182 : (Cond.methodLink "WitnessWall" 35 yX1_init) ∈ TG := tg_1 (i := 182) rfl rfl
theorem tw_1_183 : (Cond.classLink "WitnessWall" 40 "WitnessWall$Term") ∈ TG := tg_1 (i := 183) rfl rfl
theorem tw_1_184 : (Cond.instantiable "WitnessWall$Term" 2) ∈ TG := tg_1 (i := 184) rfl rfl
theorem tw_1_186 : (Cond.instanceMethod yX6_init) ∈ TG := tg_1 (i := 186) rfl rfl
theorem tw_1_187 : (Cond.code yX6_init cX6_init 1 none) ∈ TG := tg_1 (i := 187) rfl rfl
theorem tw_1_188 : (Cond.methodLink "WitnessWall$Term" 3 objectInit) ∈ TG := tg_1 (i := 188) rfl rfl
theorem tw_1_189 : (Cond.fieldLink "WitnessWall$Term" 9 "WitnessWall$Term" "winnable" "[I") ∈ TG := tg_1 (i := 189) rfl rfl
theorem tw_1_190 : (Cond.fieldLink "WitnessWall$Term" 15 "WitnessWall$Term" "most" "[I") ∈ TG := tg_1 (i := 190) rfl rfl
theorem tw_1_191 : (Cond.laysFinal "WitnessWall$Term" "WitnessWall$Term" "winnable" "[I") ∈ TG := tg_1 (i := 191) rfl rfl
theorem tw_1_193 : (Cond.laysFinal "WitnessWall$Term" "WitnessWall$Term" "most" "[I") ∈ TG := tg_1 (i := 193) rfl rfl
theorem tw_1_196 : (Cond.classLink "WitnessWall" 47 "WitnessWall$Worlds") ∈ TG := tg_1 (i := 196) rfl rfl
theorem tw_1_197 : (Cond.instantiable "WitnessWall$Worlds" 2) ∈ TG := tg_1 (i := 197) rfl rfl
theorem tw_1_199 : (Cond.instanceMethod yX8_init) ∈ TG := tg_1 (i := 199) rfl rfl
theorem tw_1_200 : (Cond.code yX8_init cX8_init 1 none) ∈ TG := tg_1 (i := 200) rfl rfl
theorem tw_1_201 : (Cond.methodLink "WitnessWall$Worlds" 3 objectInit) ∈ TG := tg_1 (i := 201) rfl rfl
theorem tw_1_202 : (Cond.fieldLink "WitnessWall$Worlds" 9 "WitnessWall$Worlds" "ways" "[I") ∈ TG := tg_1 (i := 202) rfl rfl
theorem tw_1_203 : (Cond.fieldLink "WitnessWall$Worlds" 15 "WitnessWall$Worlds" "waysThen" "[I") ∈ TG := tg_1 (i := 203) rfl rfl
theorem tw_1_204 : (Cond.laysFinal "WitnessWall$Worlds" "WitnessWall$Worlds" "ways" "[I") ∈ TG := tg_1 (i := 204) rfl rfl
theorem tw_1_206 : (Cond.laysFinal "WitnessWall$Worlds" "WitnessWall$Worlds" "waysThen" "[I") ∈ TG := tg_1 (i := 206) rfl rfl
theorem tw_1_209 : (Cond.fieldLink "WitnessWall" 12 "WitnessWall" "page" "LWitnessWall$Page;") ∈ TG := tg_1 (i := 209) rfl rfl
theorem tw_1_210 : (Cond.fieldLink "WitnessWall" 19 "WitnessWall" "cases" "LWitnessWall$Cases;") ∈ TG := tg_1 (i := 210) rfl rfl
theorem tw_1_211 : (Cond.fieldLink "WitnessWall" 26 "WitnessWall" "now" "LWitnessWall$Scene;") ∈ TG := tg_1 (i := 211) rfl rfl
theorem tw_1_212 : (Cond.fieldLink "WitnessWall" 30 "WitnessWall" "kept" "LWitnessWall$Scene;") ∈ TG := tg_1 (i := 212) rfl rfl
theorem tw_1_213 : (Cond.fieldLink "WitnessWall" 36 "WitnessWall" "trial" "LWitnessWall$Hall;") ∈ TG := tg_1 (i := 213) rfl rfl
theorem tw_1_214 : (Cond.fieldLink "WitnessWall" 43 "WitnessWall" "days" "LWitnessWall$Term;") ∈ TG := tg_1 (i := 214) rfl rfl
theorem tw_1_215 : (Cond.fieldLink "WitnessWall" 50 "WitnessWall" "counting" "LWitnessWall$Worlds;") ∈ TG := tg_1 (i := 215) rfl rfl
theorem tw_1_216 : (Cond.fieldLink "WitnessWall" 54 "WitnessWall" "isKept" "Z") ∈ TG := tg_1 (i := 216) rfl rfl
theorem tw_1_217 : (Cond.fieldLink "WitnessWall" 58 "WitnessWall" "wallsRead" "I") ∈ TG := tg_1 (i := 217) rfl rfl
theorem tw_1_218 : (Cond.laysFinal "WitnessWall" "WitnessWall" "page" "LWitnessWall$Page;") ∈ TG := tg_1 (i := 218) rfl rfl
theorem tw_1_220 : (Cond.laysFinal "WitnessWall" "WitnessWall" "cases" "LWitnessWall$Cases;") ∈ TG := tg_1 (i := 220) rfl rfl
theorem tw_1_222 : (Cond.laysFinal "WitnessWall" "WitnessWall" "now" "LWitnessWall$Scene;") ∈ TG := tg_1 (i := 222) rfl rfl
theorem tw_1_224 : (Cond.laysFinal "WitnessWall" "WitnessWall" "kept" "LWitnessWall$Scene;") ∈ TG := tg_1 (i := 224) rfl rfl
theorem tw_1_226 : (Cond.laysFinal "WitnessWall" "WitnessWall" "trial" "LWitnessWall$Hall;") ∈ TG := tg_1 (i := 226) rfl rfl
theorem tw_1_228 : (Cond.laysFinal "WitnessWall" "WitnessWall" "days" "LWitnessWall$Term;") ∈ TG := tg_1 (i := 228) rfl rfl
theorem tw_1_230 : (Cond.laysFinal "WitnessWall" "WitnessWall" "counting" "LWitnessWall$Worlds;") ∈ TG := tg_1 (i := 230) rfl rfl
theorem tw_1_232 : (Cond.lays "WitnessWall" "WitnessWall" "isKept" "Z") ∈ TG := tg_1 (i := 232) rfl rfl
theorem tw_1_234 : (Cond.lays "WitnessWall" "WitnessWall" "wallsRead" "I") ∈ TG := tg_1 (i := 234) rfl rfl
theorem tw_1_237 : (Cond.methodLink "WitnessWallLaw" 13 yX9_letter) ∈ TG := tg_1 (i := 237) rfl rfl
theorem tw_1_238 : (Cond.instanceMethod yX9_letter) ∈ TG := tg_1 (i := 238) rfl rfl
theorem tw_1_239 : (Cond.selects "WitnessWall" yX9_letter yX9_letter) ∈ TG := tg_1 (i := 239) rfl rfl
theorem tw_2_0 : (Cond.code yX9_letter cX9_letter 2 (some FieldType.int)) ∈ TG := tg_2 (i := 0) rfl rfl
theorem tw_2_1 : (Cond.methodLink "WitnessWall" 62 yX9_isWithin) ∈ TG := tg_2 (i := 1) rfl rfl
theorem tw_2_2 : (Cond.static yX9_isWithin) ∈ TG := tg_2 (i := 2) rfl rfl
theorem tw_2_3 : (Cond.code yX9_isWithin cX9_isWithin 3 (some FieldType.boolean)) ∈ TG := tg_2 (i := 3) rfl rfl
theorem tw_2_4 : (Cond.methodLink "WitnessWall" 69 yX2_write) ∈ TG := tg_2 (i := 4) rfl rfl
theorem tw_2_5 : (Cond.instanceMethod yX2_write) ∈ TG := tg_2 (i := 5) rfl rfl
theorem tw_2_6 : (Cond.selects "WitnessWall$Page" yX2_write yX2_write) ∈ TG := tg_2 (i := 6) rfl rfl
theorem tw_2_7 : (Cond.code yX2_write cX2_write 2 none) ∈ TG := tg_2 (i := 7) rfl rfl
theorem tw_2_8 : (Cond.methodLink "WitnessWallLaw" 18 yX9_blank) ∈ TG := tg_2 (i := 8) rfl rfl
theorem tw_2_9 : (Cond.instanceMethod yX9_blank) ∈ TG := tg_2 (i := 9) rfl rfl
theorem tw_2_10 : (Cond.selects "WitnessWall" yX9_blank yX9_blank) ∈ TG := tg_2 (i := 10) rfl rfl
theorem tw_2_11 : (Cond.code yX9_blank cX9_blank 2 (some FieldType.int)) ∈ TG := tg_2 (i := 11) rfl rfl
theorem tw_2_12 : (Cond.methodLink "WitnessWallLaw" 23 yX9_fault) ∈ TG := tg_2 (i := 12) rfl rfl
theorem tw_2_13 : (Cond.instanceMethod yX9_fault) ∈ TG := tg_2 (i := 13) rfl rfl
theorem tw_2_14 : (Cond.selects "WitnessWall" yX9_fault yX9_fault) ∈ TG := tg_2 (i := 14) rfl rfl
theorem tw_2_15 : (Cond.code yX9_fault cX9_fault 1 (some FieldType.int)) ∈ TG := tg_2 (i := 15) rfl rfl
theorem tw_2_16 : (Cond.methodLink "WitnessWall" 73 yX2_read) ∈ TG := tg_2 (i := 16) rfl rfl
theorem tw_2_17 : (Cond.instanceMethod yX2_read) ∈ TG := tg_2 (i := 17) rfl rfl
theorem tw_2_18 : (Cond.selects "WitnessWall$Page" yX2_read yX2_read) ∈ TG := tg_2 (i := 18) rfl rfl
theorem tw_2_19 : (Cond.code yX2_read cX2_read 2 (some FieldType.int)) ∈ TG := tg_2 (i := 19) rfl rfl
theorem tw_2_20 : (Cond.methodLink "WitnessWall$Page" 38 yX2_accepts) ∈ TG := tg_2 (i := 20) rfl rfl
theorem tw_2_21 : (Cond.instanceMethod yX2_accepts) ∈ TG := tg_2 (i := 21) rfl rfl
theorem tw_2_22 : (Cond.selects "WitnessWall$Page" yX2_accepts yX2_accepts) ∈ TG := tg_2 (i := 22) rfl rfl
theorem tw_2_23 : (Cond.code yX2_accepts cX2_accepts 2 (some FieldType.boolean)) ∈ TG := tg_2 (i := 23) rfl rfl
theorem tw_2_24 : (Cond.methodLink "WitnessWall$Page" 42 yX2_acceptsKind) ∈ TG := tg_2 (i := 24) rfl rfl
theorem tw_2_25 : (Cond.instanceMethod yX2_acceptsKind) ∈ TG := tg_2 (i := 25) rfl rfl
theorem tw_2_26 : (Cond.selects "WitnessWall$Page" yX2_acceptsKind yX2_acceptsKind) ∈ TG := tg_2 (i := 26) rfl rfl
theorem tw_2_27 : (Cond.code yX2_acceptsKind cX2_acceptsKind 3 (some FieldType.boolean)) ∈ TG := tg_2 (i := 27) rfl rfl
theorem tw_2_30 : (Cond.methodLink "WitnessWall$Page" 65 yX1_add) ∈ TG := tg_2 (i := 30) rfl rfl
theorem tw_2_31 : (Cond.instanceMethod yX1_add) ∈ TG := tg_2 (i := 31) rfl rfl
theorem tw_2_32 : (Cond.selects "WitnessWall$Hall" yX1_add yX1_add) ∈ TG := tg_2 (i := 32) rfl rfl
theorem tw_2_33 : (Cond.code yX1_add cX1_add 2 none) ∈ TG := tg_2 (i := 33) rfl rfl
theorem tw_2_34 : (Cond.methodLink "WitnessWall$Hall" 30 yX7_beginAs) ∈ TG := tg_2 (i := 34) rfl rfl
theorem tw_2_35 : (Cond.instanceMethod yX7_beginAs) ∈ TG := tg_2 (i := 35) rfl rfl
theorem tw_2_36 : (Cond.selects "WitnessWall$Witness" yX7_beginAs yX7_beginAs) ∈ TG := tg_2 (i := 36) rfl rfl
theorem tw_2_37 : (Cond.code yX7_beginAs cX7_beginAs 2 none) ∈ TG := tg_2 (i := 37) rfl rfl
theorem tw_2_38 : (Cond.methodLink "WitnessWall$Page" 45 yX2_acceptsInWitness) ∈ TG := tg_2 (i := 38) rfl rfl
theorem tw_2_39 : (Cond.instanceMethod yX2_acceptsInWitness) ∈ TG := tg_2 (i := 39) rfl rfl
theorem tw_2_40 : (Cond.selects "WitnessWall$Page" yX2_acceptsInWitness yX2_acceptsInWitness) ∈ TG := tg_2 (i := 40) rfl rfl
theorem tw_2_41 : (Cond.code yX2_acceptsInWitness cX2_acceptsInWitness 2 (some FieldType.boolean)) ∈ TG := tg_2 (i := 41) rfl rfl
theorem tw_2_42 : (Cond.methodLink "WitnessWall$Page" 69 yX2_latest) ∈ TG := tg_2 (i := 42) rfl rfl
theorem tw_2_43 : (Cond.instanceMethod yX2_latest) ∈ TG := tg_2 (i := 43) rfl rfl
theorem tw_2_44 : (Cond.selects "WitnessWall$Page" yX2_latest yX2_latest) ∈ TG := tg_2 (i := 44) rfl rfl
theorem tw_2_45 : (Cond.code yX2_latest cX2_latest 1 (Option.some (FieldType.object "WitnessWall$Witness"))) ∈ TG := tg_2 (i := 45) rfl rfl
theorem tw_2_46 : (Cond.methodLink "WitnessWall$Page" 100 Lib.Math.max.name) ∈ TG := tg_2 (i := 46) rfl rfl
theorem tw_2_47 : (Cond.static Lib.Math.max.name) ∈ TG := tg_2 (i := 47) rfl rfl
theorem tw_2_48 : (Cond.code Lib.Math.max.name cJ9_max_7cf53 2 (some FieldType.int)) ∈ TG := tg_2 (i := 48) rfl rfl
theorem tw_2_49 : (Cond.methodLink "WitnessWall$Page" 51 yX2_acceptsThing) ∈ TG := tg_2 (i := 49) rfl rfl
theorem tw_2_50 : (Cond.instanceMethod yX2_acceptsThing) ∈ TG := tg_2 (i := 50) rfl rfl
theorem tw_2_51 : (Cond.selects "WitnessWall$Page" yX2_acceptsThing yX2_acceptsThing) ∈ TG := tg_2 (i := 51) rfl rfl
theorem tw_2_52 : (Cond.code yX2_acceptsThing cX2_acceptsThing 3 (some FieldType.boolean)) ∈ TG := tg_2 (i := 52) rfl rfl
theorem tw_2_54 : (Cond.static yX9_isThing) ∈ TG := tg_2 (i := 54) rfl rfl
theorem tw_2_55 : (Cond.code yX9_isThing cX9_isThing 1 (some FieldType.boolean)) ∈ TG := tg_2 (i := 55) rfl rfl
theorem tw_2_56 : (Cond.methodLink "WitnessWall$Page" 48 yX2_acceptsColour) ∈ TG := tg_2 (i := 56) rfl rfl
theorem tw_2_57 : (Cond.instanceMethod yX2_acceptsColour) ∈ TG := tg_2 (i := 57) rfl rfl
theorem tw_2_58 : (Cond.selects "WitnessWall$Page" yX2_acceptsColour yX2_acceptsColour) ∈ TG := tg_2 (i := 58) rfl rfl
theorem tw_2_59 : (Cond.code yX2_acceptsColour cX2_acceptsColour 4 (some FieldType.boolean)) ∈ TG := tg_2 (i := 59) rfl rfl
theorem tw_2_61 : (Cond.static yX9_isColour) ∈ TG := tg_2 (i := 61) rfl rfl
theorem tw_2_62 : (Cond.code yX9_isColour cX9_isColour 1 (some FieldType.boolean)) ∈ TG := tg_2 (i := 62) rfl rfl
theorem tw_2_63 : (Cond.methodLink "WitnessWall$Page" 85 yX7_hasSight) ∈ TG := tg_2 (i := 63) rfl rfl
theorem tw_2_64 : (Cond.instanceMethod yX7_hasSight) ∈ TG := tg_2 (i := 64) rfl rfl
theorem tw_2_65 : (Cond.selects "WitnessWall$Witness" yX7_hasSight yX7_hasSight) ∈ TG := tg_2 (i := 65) rfl rfl
theorem tw_2_66 : (Cond.code yX7_hasSight cX7_hasSight 3 (some FieldType.boolean)) ∈ TG := tg_2 (i := 66) rfl rfl
theorem tw_2_67 : (Cond.methodLink "WitnessWall$Page" 88 yX7_add) ∈ TG := tg_2 (i := 67) rfl rfl
theorem tw_2_68 : (Cond.instanceMethod yX7_add) ∈ TG := tg_2 (i := 68) rfl rfl
theorem tw_2_69 : (Cond.selects "WitnessWall$Witness" yX7_add yX7_add) ∈ TG := tg_2 (i := 69) rfl rfl
theorem tw_2_70 : (Cond.code yX7_add cX7_add 2 none) ∈ TG := tg_2 (i := 70) rfl rfl
theorem tw_2_71 : (Cond.methodLink "WitnessWall$Witness" 22 yX7_dropBetween) ∈ TG := tg_2 (i := 71) rfl rfl
theorem tw_2_72 : (Cond.instanceMethod yX7_dropBetween) ∈ TG := tg_2 (i := 72) rfl rfl
theorem tw_2_73 : (Cond.selects "WitnessWall$Witness" yX7_dropBetween yX7_dropBetween) ∈ TG := tg_2 (i := 73) rfl rfl
theorem tw_2_74 : (Cond.code yX7_dropBetween cX7_dropBetween 5 none) ∈ TG := tg_2 (i := 74) rfl rfl
theorem tw_2_75 : (Cond.methodLink "WitnessWall$Page" 55 yX2_acceptsDue) ∈ TG := tg_2 (i := 75) rfl rfl
theorem tw_2_76 : (Cond.instanceMethod yX2_acceptsDue) ∈ TG := tg_2 (i := 76) rfl rfl
theorem tw_2_77 : (Cond.selects "WitnessWall$Page" yX2_acceptsDue yX2_acceptsDue) ∈ TG := tg_2 (i := 77) rfl rfl
theorem tw_2_78 : (Cond.code yX2_acceptsDue cX2_acceptsDue 3 (some FieldType.boolean)) ∈ TG := tg_2 (i := 78) rfl rfl
theorem tw_2_80 : (Cond.methodLink "WitnessWall$Page" 93 yX0_add) ∈ TG := tg_2 (i := 80) rfl rfl
theorem tw_2_81 : (Cond.instanceMethod yX0_add) ∈ TG := tg_2 (i := 81) rfl rfl
theorem tw_2_82 : (Cond.selects "WitnessWall$Cases" yX0_add yX0_add) ∈ TG := tg_2 (i := 82) rfl rfl
theorem tw_2_83 : (Cond.code yX0_add cX0_add 3 none) ∈ TG := tg_2 (i := 83) rfl rfl
theorem tw_2_84 : (Cond.methodLink "WitnessWall$Page" 58 yX2_acceptsBehindCase) ∈ TG := tg_2 (i := 84) rfl rfl
theorem tw_2_85 : (Cond.instanceMethod yX2_acceptsBehindCase) ∈ TG := tg_2 (i := 85) rfl rfl
theorem tw_2_86 : (Cond.selects "WitnessWall$Page" yX2_acceptsBehindCase yX2_acceptsBehindCase) ∈ TG := tg_2 (i := 86) rfl rfl
theorem tw_2_87 : (Cond.code yX2_acceptsBehindCase cX2_acceptsBehindCase 2 (some FieldType.boolean)) ∈ TG := tg_2 (i := 87) rfl rfl
theorem tw_2_88 : (Cond.methodLink "WitnessWallLaw" 27 yX9_wall) ∈ TG := tg_2 (i := 88) rfl rfl
theorem tw_2_89 : (Cond.instanceMethod yX9_wall) ∈ TG := tg_2 (i := 89) rfl rfl
theorem tw_2_90 : (Cond.selects "WitnessWall" yX9_wall yX9_wall) ∈ TG := tg_2 (i := 90) rfl rfl
theorem tw_2_91 : (Cond.code yX9_wall cX9_wall 1 (some FieldType.int)) ∈ TG := tg_2 (i := 91) rfl rfl
theorem tw_2_92 : (Cond.methodLink "WitnessWall" 77 yX2_isWhole) ∈ TG := tg_2 (i := 92) rfl rfl
theorem tw_2_93 : (Cond.instanceMethod yX2_isWhole) ∈ TG := tg_2 (i := 93) rfl rfl
theorem tw_2_94 : (Cond.selects "WitnessWall$Page" yX2_isWhole yX2_isWhole) ∈ TG := tg_2 (i := 94) rfl rfl
theorem tw_2_95 : (Cond.code yX2_isWhole cX2_isWhole 1 (some FieldType.boolean)) ∈ TG := tg_2 (i := 95) rfl rfl
theorem tw_2_96 : (Cond.methodLink "WitnessWall" 84 yX3_beginWith) ∈ TG := tg_2 (i := 96) rfl rfl
theorem tw_2_97 : (Cond.instanceMethod yX3_beginWith) ∈ TG := tg_2 (i := 97) rfl rfl
theorem tw_2_98 : (Cond.selects "WitnessWall$Scene" yX3_beginWith yX3_beginWith) ∈ TG := tg_2 (i := 98) rfl rfl
theorem tw_2_99 : (Cond.code yX3_beginWith cX3_beginWith 2 none) ∈ TG := tg_2 (i := 99) rfl rfl
theorem tw_2_100 : (Cond.methodLink "WitnessWall$Scene" 30 yX1_copyFrom) ∈ TG := tg_2 (i := 100) rfl rfl
theorem tw_2_101 : (Cond.instanceMethod yX1_copyFrom) ∈ TG := tg_2 (i := 101) rfl rfl
theorem tw_2_102 : (Cond.selects "WitnessWall$Hall" yX1_copyFrom yX1_copyFrom) ∈ TG := tg_2 (i := 102) rfl rfl
theorem tw_2_103 : (Cond.code yX1_copyFrom cX1_copyFrom 3 none) ∈ TG := tg_2 (i := 103) rfl rfl
theorem tw_2_104 : (Cond.methodLink "WitnessWall$Hall" 26 yX7_copyFrom) ∈ TG := tg_2 (i := 104) rfl rfl
theorem tw_2_105 : (Cond.instanceMethod yX7_copyFrom) ∈ TG := tg_2 (i := 105) rfl rfl
theorem tw_2_106 : (Cond.selects "WitnessWall$Witness" yX7_copyFrom yX7_copyFrom) ∈ TG := tg_2 (i := 106) rfl rfl
theorem tw_2_107 : (Cond.code yX7_copyFrom cX7_copyFrom 3 none) ∈ TG := tg_2 (i := 107) rfl rfl
theorem tw_2_108 : (Cond.methodLink "WitnessWall" 89 yX0_copyFrom) ∈ TG := tg_2 (i := 108) rfl rfl
theorem tw_2_109 : (Cond.instanceMethod yX0_copyFrom) ∈ TG := tg_2 (i := 109) rfl rfl
theorem tw_2_110 : (Cond.selects "WitnessWall$Cases" yX0_copyFrom yX0_copyFrom) ∈ TG := tg_2 (i := 110) rfl rfl
theorem tw_2_111 : (Cond.code yX0_copyFrom cX0_copyFrom 3 none) ∈ TG := tg_2 (i := 111) rfl rfl
theorem tw_2_112 : (Cond.methodLink "WitnessWallLaw" 31 yX9_witness) ∈ TG := tg_2 (i := 112) rfl rfl
theorem tw_2_113 : (Cond.instanceMethod yX9_witness) ∈ TG := tg_2 (i := 113) rfl rfl
theorem tw_2_114 : (Cond.selects "WitnessWall" yX9_witness yX9_witness) ∈ TG := tg_2 (i := 114) rfl rfl
theorem tw_2_115 : (Cond.code yX9_witness cX9_witness 4 (some FieldType.int)) ∈ TG := tg_2 (i := 115) rfl rfl
theorem tw_2_116 : (Cond.methodLink "WitnessWall" 95 yX9_isWitness) ∈ TG := tg_2 (i := 116) rfl rfl
theorem tw_2_118 : (Cond.instanceMethod yX9_isWitness) ∈ TG := tg_2 (i := 118) rfl rfl
theorem tw_2_119 : (Cond.code yX9_isWitness cX9_isWitness 2 (some FieldType.boolean)) ∈ TG := tg_2 (i := 119) rfl rfl
theorem tw_2_120 : (Cond.methodLink "WitnessWall" 109 yX7_sightAt) ∈ TG := tg_2 (i := 120) rfl rfl
theorem tw_2_121 : (Cond.instanceMethod yX7_sightAt) ∈ TG := tg_2 (i := 121) rfl rfl
theorem tw_2_122 : (Cond.selects "WitnessWall$Witness" yX7_sightAt yX7_sightAt) ∈ TG := tg_2 (i := 122) rfl rfl
theorem tw_2_123 : (Cond.code yX7_sightAt cX7_sightAt 2 (some FieldType.int)) ∈ TG := tg_2 (i := 123) rfl rfl
theorem tw_2_124 : (Cond.methodLink "WitnessWall" 117 yX4_sortsOf) ∈ TG := tg_2 (i := 124) rfl rfl
theorem tw_2_125 : (Cond.instanceMethod yX4_sortsOf) ∈ TG := tg_2 (i := 125) rfl rfl
theorem tw_2_126 : (Cond.selects "WitnessWall$Seen" yX4_sortsOf yX4_sortsOf) ∈ TG := tg_2 (i := 126) rfl rfl
theorem tw_2_127 : (Cond.code yX4_sortsOf cX4_sortsOf 4 (some FieldType.int)) ∈ TG := tg_2 (i := 127) rfl rfl
theorem tw_2_128 : (Cond.methodLink "WitnessWall" 122 yX4_askFor) ∈ TG := tg_2 (i := 128) rfl rfl
theorem tw_2_129 : (Cond.instanceMethod yX4_askFor) ∈ TG := tg_2 (i := 129) rfl rfl
theorem tw_2_130 : (Cond.selects "WitnessWall$Seen" yX4_askFor yX4_askFor) ∈ TG := tg_2 (i := 130) rfl rfl
theorem tw_2_131 : (Cond.code yX4_askFor cX4_askFor 9 (some FieldType.int)) ∈ TG := tg_2 (i := 131) rfl rfl
theorem tw_2_132 : (Cond.methodLink "WitnessWall$Seen" 25 yX4_sortsOf) ∈ TG := tg_2 (i := 132) rfl rfl
theorem tw_2_135 : (Cond.methodLink "WitnessWall$Seen" 29 yJ6_bitCount_0f7a4) ∈ TG := tg_2 (i := 135) rfl rfl
theorem tw_2_136 : (Cond.static yJ6_bitCount_0f7a4) ∈ TG := tg_2 (i := 136) rfl rfl
theorem tw_2_137 : (Cond.code yJ6_bitCount_0f7a4 cJ6_bitCount_0f7a4 1 (some FieldType.int)) ∈ TG := tg_2 (i := 137) rfl rfl
theorem tw_2_138 : (Cond.constant "java/lang/Integer" 265 (1431655765)) ∈ TG := tg_2 (i := 138) rfl rfl
theorem tw_2_139 : (Cond.constant "java/lang/Integer" 266 (858993459)) ∈ TG := tg_2 (i := 139) rfl rfl
theorem tw_2_140 : (Cond.constant "java/lang/Integer" 267 (252645135)) ∈ TG := tg_2 (i := 140) rfl rfl
theorem tw_2_141 : (Cond.methodLink "WitnessWall$Seen" 34 Lib.Math.max.name) ∈ TG := tg_2 (i := 141) rfl rfl
theorem tw_2_142 : (Cond.methodLink "WitnessWall" 125 yX1_clashesOf) ∈ TG := tg_2 (i := 142) rfl rfl
theorem tw_2_143 : (Cond.instanceMethod yX1_clashesOf) ∈ TG := tg_2 (i := 143) rfl rfl
theorem tw_2_144 : (Cond.selects "WitnessWall$Hall" yX1_clashesOf yX1_clashesOf) ∈ TG := tg_2 (i := 144) rfl rfl
theorem tw_2_145 : (Cond.code yX1_clashesOf cX1_clashesOf 4 (some FieldType.int)) ∈ TG := tg_2 (i := 145) rfl rfl
theorem tw_2_146 : (Cond.methodLink "WitnessWall$Hall" 49 yX1_clashesBetween) ∈ TG := tg_2 (i := 146) rfl rfl
theorem tw_2_147 : (Cond.instanceMethod yX1_clashesBetween) ∈ TG := tg_2 (i := 147) rfl rfl
theorem tw_2_148 : (Cond.selects "WitnessWall$Hall" yX1_clashesBetween yX1_clashesBetween) ∈ TG := tg_2 (i := 148) rfl rfl
theorem tw_2_149 : (Cond.code yX1_clashesBetween cX1_clashesBetween 7 (some FieldType.int)) ∈ TG := tg_2 (i := 149) rfl rfl
theorem tw_2_150 : (Cond.methodLink "WitnessWall$Hall" 46 yX7_colourOf) ∈ TG := tg_2 (i := 150) rfl rfl
theorem tw_2_151 : (Cond.instanceMethod yX7_colourOf) ∈ TG := tg_2 (i := 151) rfl rfl
theorem tw_2_152 : (Cond.selects "WitnessWall$Witness" yX7_colourOf yX7_colourOf) ∈ TG := tg_2 (i := 152) rfl rfl
theorem tw_2_153 : (Cond.code yX7_colourOf cX7_colourOf 3 (some FieldType.int)) ∈ TG := tg_2 (i := 153) rfl rfl
theorem tw_2_154 : (Cond.methodLink "WitnessWallLaw" 36 yX9_as) ∈ TG := tg_2 (i := 154) rfl rfl
theorem tw_2_155 : (Cond.instanceMethod yX9_as) ∈ TG := tg_2 (i := 155) rfl rfl
theorem tw_2_156 : (Cond.selects "WitnessWall" yX9_as yX9_as) ∈ TG := tg_2 (i := 156) rfl rfl
theorem tw_2_157 : (Cond.code yX9_as cX9_as 3 (some FieldType.int)) ∈ TG := tg_2 (i := 157) rfl rfl
theorem tw_2_158 : (Cond.methodLink "WitnessWall" 128 yX7_isSuch) ∈ TG := tg_2 (i := 158) rfl rfl
theorem tw_2_159 : (Cond.instanceMethod yX7_isSuch) ∈ TG := tg_2 (i := 159) rfl rfl
theorem tw_2_160 : (Cond.selects "WitnessWall$Witness" yX7_isSuch yX7_isSuch) ∈ TG := tg_2 (i := 160) rfl rfl
theorem tw_2_161 : (Cond.code yX7_isSuch cX7_isSuch 2 (some FieldType.boolean)) ∈ TG := tg_2 (i := 161) rfl rfl
theorem tw_2_162 : (Cond.methodLink "WitnessWallLaw" 40 yX9_tells) ∈ TG := tg_2 (i := 162) rfl rfl
theorem tw_2_163 : (Cond.instanceMethod yX9_tells) ∈ TG := tg_2 (i := 163) rfl rfl
theorem tw_2_164 : (Cond.selects "WitnessWall" yX9_tells yX9_tells) ∈ TG := tg_2 (i := 164) rfl rfl
theorem tw_2_165 : (Cond.code yX9_tells cX9_tells 3 (some FieldType.int)) ∈ TG := tg_2 (i := 165) rfl rfl
theorem tw_2_166 : (Cond.methodLink "WitnessWall" 131 yX9_isThing) ∈ TG := tg_2 (i := 166) rfl rfl
theorem tw_2_167 : (Cond.methodLink "WitnessWall" 134 yX7_colourOf) ∈ TG := tg_2 (i := 167) rfl rfl
theorem tw_2_168 : (Cond.methodLink "WitnessWallLaw" 44 yX9_said) ∈ TG := tg_2 (i := 168) rfl rfl
theorem tw_2_169 : (Cond.instanceMethod yX9_said) ∈ TG := tg_2 (i := 169) rfl rfl
theorem tw_2_170 : (Cond.selects "WitnessWall" yX9_said yX9_said) ∈ TG := tg_2 (i := 170) rfl rfl
theorem tw_2_171 : (Cond.code yX9_said cX9_said 2 (some FieldType.int)) ∈ TG := tg_2 (i := 171) rfl rfl
theorem tw_2_172 : (Cond.methodLink "WitnessWall" 137 yX9_hasWall) ∈ TG := tg_2 (i := 172) rfl rfl
theorem tw_2_174 : (Cond.instanceMethod yX9_hasWall) ∈ TG := tg_2 (i := 174) rfl rfl
theorem tw_2_175 : (Cond.code yX9_hasWall cX9_hasWall 1 (some FieldType.boolean)) ∈ TG := tg_2 (i := 175) rfl rfl
theorem tw_2_176 : (Cond.methodLink "WitnessWall" 140 yX1_everyone) ∈ TG := tg_2 (i := 176) rfl rfl
theorem tw_2_177 : (Cond.instanceMethod yX1_everyone) ∈ TG := tg_2 (i := 177) rfl rfl
theorem tw_2_178 : (Cond.selects "WitnessWall$Hall" yX1_everyone yX1_everyone) ∈ TG := tg_2 (i := 178) rfl rfl
theorem tw_2_179 : (Cond.code yX1_everyone cX1_everyone 1 (some FieldType.int)) ∈ TG := tg_2 (i := 179) rfl rfl
theorem tw_2_180 : (Cond.methodLink "WitnessWall" 143 yX1_saidAmong) ∈ TG := tg_2 (i := 180) rfl rfl
theorem tw_2_181 : (Cond.instanceMethod yX1_saidAmong) ∈ TG := tg_2 (i := 181) rfl rfl
theorem tw_2_182 : (Cond.selects "WitnessWall$Hall" yX1_saidAmong yX1_saidAmong) ∈ TG := tg_2 (i := 182) rfl rfl
theorem tw_2_183 : (Cond.code yX1_saidAmong cX1_saidAmong 6 (some FieldType.int)) ∈ TG := tg_2 (i := 183) rfl rfl
theorem tw_2_184 : (Cond.methodLink "WitnessWall$Hall" 42 yX1_countTellers) ∈ TG := tg_2 (i := 184) rfl rfl
theorem tw_2_185 : (Cond.instanceMethod yX1_countTellers) ∈ TG := tg_2 (i := 185) rfl rfl
theorem tw_2_186 : (Cond.selects "WitnessWall$Hall" yX1_countTellers yX1_countTellers) ∈ TG := tg_2 (i := 186) rfl rfl
theorem tw_2_187 : (Cond.code yX1_countTellers cX1_countTellers 5 none) ∈ TG := tg_2 (i := 187) rfl rfl
theorem tw_2_188 : (Cond.methodLink "WitnessWallLaw" 48 yX9_having) ∈ TG := tg_2 (i := 188) rfl rfl
theorem tw_2_189 : (Cond.instanceMethod yX9_having) ∈ TG := tg_2 (i := 189) rfl rfl
theorem tw_2_190 : (Cond.selects "WitnessWall" yX9_having yX9_having) ∈ TG := tg_2 (i := 190) rfl rfl
theorem tw_2_191 : (Cond.code yX9_having cX9_having 3 (some FieldType.int)) ∈ TG := tg_2 (i := 191) rfl rfl
theorem tw_2_192 : (Cond.methodLink "WitnessWall" 147 yX9_isColour) ∈ TG := tg_2 (i := 192) rfl rfl
theorem tw_2_193 : (Cond.methodLink "WitnessWall" 150 yX1_havingSight) ∈ TG := tg_2 (i := 193) rfl rfl
theorem tw_2_194 : (Cond.instanceMethod yX1_havingSight) ∈ TG := tg_2 (i := 194) rfl rfl
theorem tw_2_195 : (Cond.selects "WitnessWall$Hall" yX1_havingSight yX1_havingSight) ∈ TG := tg_2 (i := 195) rfl rfl
theorem tw_2_196 : (Cond.code yX1_havingSight cX1_havingSight 4 (some FieldType.int)) ∈ TG := tg_2 (i := 196) rfl rfl
theorem tw_2_197 : (Cond.methodLink "WitnessWall$Hall" 34 yX7_hasSight) ∈ TG := tg_2 (i := 197) rfl rfl
theorem tw_2_198 : (Cond.methodLink "WitnessWallLaw" 52 yX9_show) ∈ TG := tg_2 (i := 198) rfl rfl
theorem tw_2_199 : (Cond.instanceMethod yX9_show) ∈ TG := tg_2 (i := 199) rfl rfl
theorem tw_2_200 : (Cond.selects "WitnessWall" yX9_show yX9_show) ∈ TG := tg_2 (i := 200) rfl rfl
theorem tw_2_201 : (Cond.code yX9_show cX9_show 4 (some FieldType.int)) ∈ TG := tg_2 (i := 201) rfl rfl
theorem tw_2_202 : (Cond.methodLink "WitnessWall" 156 yX7_meets) ∈ TG := tg_2 (i := 202) rfl rfl
theorem tw_2_203 : (Cond.instanceMethod yX7_meets) ∈ TG := tg_2 (i := 203) rfl rfl
theorem tw_2_204 : (Cond.selects "WitnessWall$Witness" yX7_meets yX7_meets) ∈ TG := tg_2 (i := 204) rfl rfl
theorem tw_2_205 : (Cond.code yX7_meets cX7_meets 3 (some FieldType.boolean)) ∈ TG := tg_2 (i := 205) rfl rfl
theorem tw_2_206 : (Cond.methodLink "WitnessWall$Witness" 26 yX7_colourOf) ∈ TG := tg_2 (i := 206) rfl rfl
theorem tw_2_207 : (Cond.methodLink "WitnessWall$Witness" 30 yX7_add) ∈ TG := tg_2 (i := 207) rfl rfl
theorem tw_2_208 : (Cond.methodLink "WitnessWallLaw" 57 yX9_be) ∈ TG := tg_2 (i := 208) rfl rfl
theorem tw_2_209 : (Cond.instanceMethod yX9_be) ∈ TG := tg_2 (i := 209) rfl rfl
theorem tw_2_210 : (Cond.selects "WitnessWall" yX9_be yX9_be) ∈ TG := tg_2 (i := 210) rfl rfl
theorem tw_2_211 : (Cond.code yX9_be cX9_be 5 (some FieldType.int)) ∈ TG := tg_2 (i := 211) rfl rfl
theorem tw_2_212 : (Cond.methodLink "WitnessWallLaw" 61 yX9_slip) ∈ TG := tg_2 (i := 212) rfl rfl
theorem tw_2_213 : (Cond.instanceMethod yX9_slip) ∈ TG := tg_2 (i := 213) rfl rfl
theorem tw_2_214 : (Cond.selects "WitnessWall" yX9_slip yX9_slip) ∈ TG := tg_2 (i := 214) rfl rfl
theorem tw_2_215 : (Cond.code yX9_slip cX9_slip 5 (some FieldType.int)) ∈ TG := tg_2 (i := 215) rfl rfl
theorem tw_2_216 : (Cond.methodLink "WitnessWall" 166 yX5_add) ∈ TG := tg_2 (i := 216) rfl rfl
theorem tw_2_217 : (Cond.instanceMethod yX5_add) ∈ TG := tg_2 (i := 217) rfl rfl
theorem tw_2_218 : (Cond.selects "WitnessWall$Slips" yX5_add yX5_add) ∈ TG := tg_2 (i := 218) rfl rfl
theorem tw_2_219 : (Cond.code yX5_add cX5_add 4 none) ∈ TG := tg_2 (i := 219) rfl rfl
theorem tw_2_220 : (Cond.methodLink "WitnessWallLaw" 66 yX9_tear) ∈ TG := tg_2 (i := 220) rfl rfl
theorem tw_2_221 : (Cond.instanceMethod yX9_tear) ∈ TG := tg_2 (i := 221) rfl rfl
theorem tw_2_222 : (Cond.selects "WitnessWall" yX9_tear yX9_tear) ∈ TG := tg_2 (i := 222) rfl rfl
theorem tw_2_223 : (Cond.code yX9_tear cX9_tear 2 (some FieldType.int)) ∈ TG := tg_2 (i := 223) rfl rfl
theorem tw_2_224 : (Cond.methodLink "WitnessWallLaw" 70 yX9_term) ∈ TG := tg_2 (i := 224) rfl rfl
theorem tw_2_225 : (Cond.instanceMethod yX9_term) ∈ TG := tg_2 (i := 225) rfl rfl
theorem tw_2_226 : (Cond.selects "WitnessWall" yX9_term yX9_term) ∈ TG := tg_2 (i := 226) rfl rfl
theorem tw_2_227 : (Cond.code yX9_term cX9_term 2 (some FieldType.int)) ∈ TG := tg_2 (i := 227) rfl rfl
theorem tw_2_228 : (Cond.methodLink "WitnessWall" 170 yX1_copyFrom) ∈ TG := tg_2 (i := 228) rfl rfl
theorem tw_2_229 : (Cond.methodLink "WitnessWall" 172 yX6_goBy) ∈ TG := tg_2 (i := 229) rfl rfl
theorem tw_2_230 : (Cond.instanceMethod yX6_goBy) ∈ TG := tg_2 (i := 230) rfl rfl
theorem tw_2_231 : (Cond.selects "WitnessWall$Term" yX6_goBy yX6_goBy) ∈ TG := tg_2 (i := 231) rfl rfl
theorem tw_2_232 : (Cond.code yX6_goBy cX6_goBy 6 none) ∈ TG := tg_2 (i := 232) rfl rfl
theorem tw_2_233 : (Cond.methodLink "WitnessWall$Term" 18 yX6_winnableOn) ∈ TG := tg_2 (i := 233) rfl rfl
theorem tw_2_234 : (Cond.instanceMethod yX6_winnableOn) ∈ TG := tg_2 (i := 234) rfl rfl
theorem tw_2_235 : (Cond.selects "WitnessWall$Term" yX6_winnableOn yX6_winnableOn) ∈ TG := tg_2 (i := 235) rfl rfl
theorem tw_2_236 : (Cond.code yX6_winnableOn cX6_winnableOn 6 (some FieldType.int)) ∈ TG := tg_2 (i := 236) rfl rfl
theorem tw_2_237 : (Cond.methodLink "WitnessWall$Term" 41 yX1_everyone) ∈ TG := tg_2 (i := 237) rfl rfl
theorem tw_2_238 : (Cond.methodLink "WitnessWall$Term" 50 yX1_saidAmong) ∈ TG := tg_2 (i := 238) rfl rfl
theorem tw_2_239 : (Cond.methodLink "WitnessWall$Term" 22 yX5_comeIn) ∈ TG := tg_2 (i := 239) rfl rfl
theorem tw_3_0 : (Cond.instanceMethod yX5_comeIn) ∈ TG := tg_3 (i := 0) rfl rfl
theorem tw_3_1 : (Cond.selects "WitnessWall$Slips" yX5_comeIn yX5_comeIn) ∈ TG := tg_3 (i := 1) rfl rfl
theorem tw_3_2 : (Cond.code yX5_comeIn cX5_comeIn 4 none) ∈ TG := tg_3 (i := 2) rfl rfl
theorem tw_3_4 : (Cond.methodLink "WitnessWall$Slips" 35 yX7_meets) ∈ TG := tg_3 (i := 4) rfl rfl
theorem tw_3_5 : (Cond.methodLink "WitnessWall$Term" 28 yX6_mostFrom) ∈ TG := tg_3 (i := 5) rfl rfl
theorem tw_3_6 : (Cond.instanceMethod yX6_mostFrom) ∈ TG := tg_3 (i := 6) rfl rfl
theorem tw_3_7 : (Cond.selects "WitnessWall$Term" yX6_mostFrom yX6_mostFrom) ∈ TG := tg_3 (i := 7) rfl rfl
theorem tw_3_8 : (Cond.code yX6_mostFrom cX6_mostFrom 5 (some FieldType.int)) ∈ TG := tg_3 (i := 8) rfl rfl
theorem tw_3_9 : (Cond.methodLink "WitnessWall$Term" 53 yX6_wonBy) ∈ TG := tg_3 (i := 9) rfl rfl
theorem tw_3_10 : (Cond.instanceMethod yX6_wonBy) ∈ TG := tg_3 (i := 10) rfl rfl
theorem tw_3_11 : (Cond.selects "WitnessWall$Term" yX6_wonBy yX6_wonBy) ∈ TG := tg_3 (i := 11) rfl rfl
theorem tw_3_12 : (Cond.code yX6_wonBy cX6_wonBy 7 (some FieldType.int)) ∈ TG := tg_3 (i := 12) rfl rfl
theorem tw_3_13 : (Cond.methodLink "WitnessWall$Term" 57 Lib.Math.max.name) ∈ TG := tg_3 (i := 13) rfl rfl
theorem tw_3_14 : (Cond.methodLink "WitnessWall" 176 yX6_mostWon) ∈ TG := tg_3 (i := 14) rfl rfl
theorem tw_3_15 : (Cond.instanceMethod yX6_mostWon) ∈ TG := tg_3 (i := 15) rfl rfl
theorem tw_3_16 : (Cond.selects "WitnessWall$Term" yX6_mostWon yX6_mostWon) ∈ TG := tg_3 (i := 16) rfl rfl
theorem tw_3_17 : (Cond.code yX6_mostWon cX6_mostWon 1 (some FieldType.int)) ∈ TG := tg_3 (i := 17) rfl rfl
theorem tw_3_18 : (Cond.methodLink "WitnessWall" 179 yX6_leastOrder) ∈ TG := tg_3 (i := 18) rfl rfl
theorem tw_3_19 : (Cond.instanceMethod yX6_leastOrder) ∈ TG := tg_3 (i := 19) rfl rfl
theorem tw_3_20 : (Cond.selects "WitnessWall$Term" yX6_leastOrder yX6_leastOrder) ∈ TG := tg_3 (i := 20) rfl rfl
theorem tw_3_21 : (Cond.code yX6_leastOrder cX6_leastOrder 5 (some FieldType.int)) ∈ TG := tg_3 (i := 21) rfl rfl
theorem tw_3_22 : (Cond.methodLink "WitnessWall$Term" 62 yX6_leastChoice) ∈ TG := tg_3 (i := 22) rfl rfl
theorem tw_3_23 : (Cond.instanceMethod yX6_leastChoice) ∈ TG := tg_3 (i := 23) rfl rfl
theorem tw_3_24 : (Cond.selects "WitnessWall$Term" yX6_leastChoice yX6_leastChoice) ∈ TG := tg_3 (i := 24) rfl rfl
theorem tw_3_25 : (Cond.code yX6_leastChoice cX6_leastChoice 4 (some FieldType.int)) ∈ TG := tg_3 (i := 25) rfl rfl
theorem tw_3_26 : (Cond.methodLink "WitnessWallLaw" 74 yX9_keep) ∈ TG := tg_3 (i := 26) rfl rfl
theorem tw_3_27 : (Cond.instanceMethod yX9_keep) ∈ TG := tg_3 (i := 27) rfl rfl
theorem tw_3_28 : (Cond.selects "WitnessWall" yX9_keep yX9_keep) ∈ TG := tg_3 (i := 28) rfl rfl
theorem tw_3_29 : (Cond.code yX9_keep cX9_keep 3 (some FieldType.int)) ∈ TG := tg_3 (i := 29) rfl rfl
theorem tw_3_30 : (Cond.methodLink "WitnessWall" 182 yX1_fewestToKeep) ∈ TG := tg_3 (i := 30) rfl rfl
theorem tw_3_31 : (Cond.instanceMethod yX1_fewestToKeep) ∈ TG := tg_3 (i := 31) rfl rfl
theorem tw_3_32 : (Cond.selects "WitnessWall$Hall" yX1_fewestToKeep yX1_fewestToKeep) ∈ TG := tg_3 (i := 32) rfl rfl
theorem tw_3_33 : (Cond.code yX1_fewestToKeep cX1_fewestToKeep 4 (some FieldType.int)) ∈ TG := tg_3 (i := 33) rfl rfl
theorem tw_3_34 : (Cond.methodLink "WitnessWall$Hall" 53 yX1_everyone) ∈ TG := tg_3 (i := 34) rfl rfl
theorem tw_3_35 : (Cond.methodLink "WitnessWall$Hall" 57 yJ6_bitCount_0f7a4) ∈ TG := tg_3 (i := 35) rfl rfl
theorem tw_3_36 : (Cond.methodLink "WitnessWall$Hall" 62 yX1_saysTheSame) ∈ TG := tg_3 (i := 36) rfl rfl
theorem tw_3_37 : (Cond.instanceMethod yX1_saysTheSame) ∈ TG := tg_3 (i := 37) rfl rfl
theorem tw_3_38 : (Cond.selects "WitnessWall$Hall" yX1_saysTheSame yX1_saysTheSame) ∈ TG := tg_3 (i := 38) rfl rfl
theorem tw_3_39 : (Cond.code yX1_saysTheSame cX1_saysTheSame 3 (some FieldType.boolean)) ∈ TG := tg_3 (i := 39) rfl rfl
theorem tw_3_40 : (Cond.methodLink "WitnessWall$Hall" 65 yX1_saidAmong) ∈ TG := tg_3 (i := 40) rfl rfl
theorem tw_3_41 : (Cond.methodLink "WitnessWall" 185 yJ6_bitCount_0f7a4) ∈ TG := tg_3 (i := 41) rfl rfl
theorem tw_3_42 : (Cond.methodLink "WitnessWallLaw" 78 yX9_peace) ∈ TG := tg_3 (i := 42) rfl rfl
theorem tw_3_43 : (Cond.instanceMethod yX9_peace) ∈ TG := tg_3 (i := 43) rfl rfl
theorem tw_3_44 : (Cond.selects "WitnessWall" yX9_peace yX9_peace) ∈ TG := tg_3 (i := 44) rfl rfl
theorem tw_3_45 : (Cond.code yX9_peace cX9_peace 3 (some FieldType.int)) ∈ TG := tg_3 (i := 45) rfl rfl
theorem tw_3_46 : (Cond.methodLink "WitnessWall" 190 yX1_fewestToSendAway) ∈ TG := tg_3 (i := 46) rfl rfl
theorem tw_3_47 : (Cond.instanceMethod yX1_fewestToSendAway) ∈ TG := tg_3 (i := 47) rfl rfl
theorem tw_3_48 : (Cond.selects "WitnessWall$Hall" yX1_fewestToSendAway yX1_fewestToSendAway) ∈ TG := tg_3 (i := 48) rfl rfl
theorem tw_3_49 : (Cond.code yX1_fewestToSendAway cX1_fewestToSendAway 4 (some FieldType.int)) ∈ TG := tg_3 (i := 49) rfl rfl
theorem tw_3_50 : (Cond.methodLink "WitnessWall$Hall" 68 yX1_clashesAmong) ∈ TG := tg_3 (i := 50) rfl rfl
theorem tw_3_51 : (Cond.instanceMethod yX1_clashesAmong) ∈ TG := tg_3 (i := 51) rfl rfl
theorem tw_3_52 : (Cond.selects "WitnessWall$Hall" yX1_clashesAmong yX1_clashesAmong) ∈ TG := tg_3 (i := 52) rfl rfl
theorem tw_3_53 : (Cond.code yX1_clashesAmong cX1_clashesAmong 5 (some FieldType.int)) ∈ TG := tg_3 (i := 53) rfl rfl
theorem tw_3_54 : (Cond.methodLink "WitnessWallLaw" 82 yX9_worlds) ∈ TG := tg_3 (i := 54) rfl rfl
theorem tw_3_55 : (Cond.instanceMethod yX9_worlds) ∈ TG := tg_3 (i := 55) rfl rfl
theorem tw_3_56 : (Cond.selects "WitnessWall" yX9_worlds yX9_worlds) ∈ TG := tg_3 (i := 56) rfl rfl
theorem tw_3_57 : (Cond.code yX9_worlds cX9_worlds 2 (some FieldType.int)) ∈ TG := tg_3 (i := 57) rfl rfl
theorem tw_3_58 : (Cond.methodLink "WitnessWall" 193 yX8_howMany) ∈ TG := tg_3 (i := 58) rfl rfl
theorem tw_3_59 : (Cond.instanceMethod yX8_howMany) ∈ TG := tg_3 (i := 59) rfl rfl
theorem tw_3_60 : (Cond.selects "WitnessWall$Worlds" yX8_howMany yX8_howMany) ∈ TG := tg_3 (i := 60) rfl rfl
theorem tw_3_61 : (Cond.code yX8_howMany cX8_howMany 7 (some FieldType.int)) ∈ TG := tg_3 (i := 61) rfl rfl
theorem tw_3_62 : (Cond.methodLink "WitnessWall$Worlds" 18 yX8_tellOf) ∈ TG := tg_3 (i := 62) rfl rfl
theorem tw_3_63 : (Cond.instanceMethod yX8_tellOf) ∈ TG := tg_3 (i := 63) rfl rfl
theorem tw_3_64 : (Cond.selects "WitnessWall$Worlds" yX8_tellOf yX8_tellOf) ∈ TG := tg_3 (i := 64) rfl rfl
theorem tw_3_65 : (Cond.code yX8_tellOf cX8_tellOf 7 none) ∈ TG := tg_3 (i := 65) rfl rfl
theorem tw_3_66 : (Cond.methodLink "WitnessWall$Worlds" 28 yX1_wrongBy) ∈ TG := tg_3 (i := 66) rfl rfl
theorem tw_3_67 : (Cond.instanceMethod yX1_wrongBy) ∈ TG := tg_3 (i := 67) rfl rfl
theorem tw_3_68 : (Cond.selects "WitnessWall$Hall" yX1_wrongBy yX1_wrongBy) ∈ TG := tg_3 (i := 68) rfl rfl
theorem tw_3_69 : (Cond.code yX1_wrongBy cX1_wrongBy 5 (some FieldType.int)) ∈ TG := tg_3 (i := 69) rfl rfl
theorem tw_3_70 : (Cond.methodLink "WitnessWall$Hall" 71 yX7_hasOtherColour) ∈ TG := tg_3 (i := 70) rfl rfl
theorem tw_3_71 : (Cond.instanceMethod yX7_hasOtherColour) ∈ TG := tg_3 (i := 71) rfl rfl
theorem tw_3_72 : (Cond.selects "WitnessWall$Witness" yX7_hasOtherColour yX7_hasOtherColour) ∈ TG := tg_3 (i := 72) rfl rfl
theorem tw_3_73 : (Cond.code yX7_hasOtherColour cX7_hasOtherColour 4 (some FieldType.boolean)) ∈ TG := tg_3 (i := 73) rfl rfl
theorem tw_3_74 : (Cond.methodLink "WitnessWall$Worlds" 22 yJ6_bitCount_0f7a4) ∈ TG := tg_3 (i := 74) rfl rfl
theorem tw_3_75 : (Cond.methodLink "WitnessWallLaw" 86 yX9_odds) ∈ TG := tg_3 (i := 75) rfl rfl
theorem tw_3_76 : (Cond.instanceMethod yX9_odds) ∈ TG := tg_3 (i := 76) rfl rfl
theorem tw_3_77 : (Cond.selects "WitnessWall" yX9_odds yX9_odds) ∈ TG := tg_3 (i := 77) rfl rfl
theorem tw_3_78 : (Cond.code yX9_odds cX9_odds 8 (some FieldType.int)) ∈ TG := tg_3 (i := 78) rfl rfl
theorem tw_3_79 : (Cond.methodLink "WitnessWall" 197 yX9_commonMeasure) ∈ TG := tg_3 (i := 79) rfl rfl
theorem tw_3_80 : (Cond.static yX9_commonMeasure) ∈ TG := tg_3 (i := 80) rfl rfl
theorem tw_3_81 : (Cond.code yX9_commonMeasure cX9_commonMeasure 6 (some FieldType.int)) ∈ TG := tg_3 (i := 81) rfl rfl
theorem tw_3_82 : (Cond.methodLink "WitnessWallLaw" 90 yX9_see) ∈ TG := tg_3 (i := 82) rfl rfl
theorem tw_3_83 : (Cond.instanceMethod yX9_see) ∈ TG := tg_3 (i := 83) rfl rfl
theorem tw_3_84 : (Cond.selects "WitnessWall" yX9_see yX9_see) ∈ TG := tg_3 (i := 84) rfl rfl
theorem tw_3_85 : (Cond.code yX9_see cX9_see 4 (some FieldType.int)) ∈ TG := tg_3 (i := 85) rfl rfl
theorem tw_3_86 : (Cond.methodLink "WitnessWall" 201 yX4_add) ∈ TG := tg_3 (i := 86) rfl rfl
theorem tw_3_87 : (Cond.instanceMethod yX4_add) ∈ TG := tg_3 (i := 87) rfl rfl
theorem tw_3_88 : (Cond.selects "WitnessWall$Seen" yX4_add yX4_add) ∈ TG := tg_3 (i := 88) rfl rfl
theorem tw_3_89 : (Cond.code yX4_add cX4_add 4 none) ∈ TG := tg_3 (i := 89) rfl rfl
theorem tw_3_90 : (Cond.methodLink "WitnessWallLaw" 95 yX9_forget) ∈ TG := tg_3 (i := 90) rfl rfl
theorem tw_3_91 : (Cond.instanceMethod yX9_forget) ∈ TG := tg_3 (i := 91) rfl rfl
theorem tw_3_92 : (Cond.selects "WitnessWall" yX9_forget yX9_forget) ∈ TG := tg_3 (i := 92) rfl rfl
theorem tw_3_93 : (Cond.code yX9_forget cX9_forget 2 (some FieldType.int)) ∈ TG := tg_3 (i := 93) rfl rfl
theorem tw_3_94 : (Cond.methodLink "WitnessWallLaw" 99 yX9_drawn) ∈ TG := tg_3 (i := 94) rfl rfl
theorem tw_3_95 : (Cond.instanceMethod yX9_drawn) ∈ TG := tg_3 (i := 95) rfl rfl
theorem tw_3_96 : (Cond.selects "WitnessWall" yX9_drawn yX9_drawn) ∈ TG := tg_3 (i := 96) rfl rfl
theorem tw_3_97 : (Cond.code yX9_drawn cX9_drawn 10 (some FieldType.int)) ∈ TG := tg_3 (i := 97) rfl rfl
theorem tw_3_98 : (Cond.methodLink "WitnessWall" 204 yX9_seedAfter) ∈ TG := tg_3 (i := 98) rfl rfl
theorem tw_3_99 : (Cond.static yX9_seedAfter) ∈ TG := tg_3 (i := 99) rfl rfl
theorem tw_3_100 : (Cond.code yX9_seedAfter cX9_seedAfter 1 (some FieldType.int)) ∈ TG := tg_3 (i := 100) rfl rfl
theorem tw_3_101 : (Cond.constant "WitnessWall" 249 (1103515245)) ∈ TG := tg_3 (i := 101) rfl rfl
theorem tw_3_102 : (Cond.constant "WitnessWall" 250 (2147483647)) ∈ TG := tg_3 (i := 102) rfl rfl
theorem tw_3_103 : (Cond.methodLink "WitnessWall" 207 yX9_drawOf) ∈ TG := tg_3 (i := 103) rfl rfl
theorem tw_3_104 : (Cond.static yX9_drawOf) ∈ TG := tg_3 (i := 104) rfl rfl
theorem tw_3_105 : (Cond.code yX9_drawOf cX9_drawOf 2 (some FieldType.int)) ∈ TG := tg_3 (i := 105) rfl rfl
theorem tw_3_106 : (Cond.constant "WitnessWall" 251 (65536)) ∈ TG := tg_3 (i := 106) rfl rfl
theorem tw_3_107 : (Cond.methodLink "WitnessWall" 210 yX1_clashesAmong) ∈ TG := tg_3 (i := 107) rfl rfl
theorem tw_3_108 : (Cond.methodLink "WitnessWallLaw" 103 yX9_image) ∈ TG := tg_3 (i := 108) rfl rfl
theorem tw_3_109 : (Cond.instanceMethod yX9_image) ∈ TG := tg_3 (i := 109) rfl rfl
theorem tw_3_110 : (Cond.selects "WitnessWall" yX9_image yX9_image) ∈ TG := tg_3 (i := 110) rfl rfl
theorem tw_3_111 : (Cond.code yX9_image cX9_image 1 (some FieldType.int)) ∈ TG := tg_3 (i := 111) rfl rfl
theorem tw_3_112 : (Cond.methodLink "WitnessWall" 213 yX3_copyFrom) ∈ TG := tg_3 (i := 112) rfl rfl
theorem tw_3_113 : (Cond.instanceMethod yX3_copyFrom) ∈ TG := tg_3 (i := 113) rfl rfl
theorem tw_3_114 : (Cond.selects "WitnessWall$Scene" yX3_copyFrom yX3_copyFrom) ∈ TG := tg_3 (i := 114) rfl rfl
theorem tw_3_115 : (Cond.code yX3_copyFrom cX3_copyFrom 2 none) ∈ TG := tg_3 (i := 115) rfl rfl
theorem tw_3_116 : (Cond.methodLink "WitnessWall$Scene" 42 yX5_copyFrom) ∈ TG := tg_3 (i := 116) rfl rfl
theorem tw_3_117 : (Cond.instanceMethod yX5_copyFrom) ∈ TG := tg_3 (i := 117) rfl rfl
theorem tw_3_118 : (Cond.selects "WitnessWall$Slips" yX5_copyFrom yX5_copyFrom) ∈ TG := tg_3 (i := 118) rfl rfl
theorem tw_3_119 : (Cond.code yX5_copyFrom cX5_copyFrom 3 none) ∈ TG := tg_3 (i := 119) rfl rfl
theorem tw_3_120 : (Cond.methodLink "WitnessWall$Scene" 45 yX4_copyFrom) ∈ TG := tg_3 (i := 120) rfl rfl
theorem tw_3_121 : (Cond.instanceMethod yX4_copyFrom) ∈ TG := tg_3 (i := 121) rfl rfl
theorem tw_3_122 : (Cond.selects "WitnessWall$Seen" yX4_copyFrom yX4_copyFrom) ∈ TG := tg_3 (i := 122) rfl rfl
theorem tw_3_123 : (Cond.code yX4_copyFrom cX4_copyFrom 3 none) ∈ TG := tg_3 (i := 123) rfl rfl
theorem tw_3_124 : (Cond.methodLink "WitnessWallLaw" 107 yX9_restore) ∈ TG := tg_3 (i := 124) rfl rfl
theorem tw_3_125 : (Cond.instanceMethod yX9_restore) ∈ TG := tg_3 (i := 125) rfl rfl
theorem tw_3_126 : (Cond.selects "WitnessWall" yX9_restore yX9_restore) ∈ TG := tg_3 (i := 126) rfl rfl
theorem tw_3_127 : (Cond.code yX9_restore cX9_restore 1 (some FieldType.int)) ∈ TG := tg_3 (i := 127) rfl rfl
theorem tw_3_128 : (Cond.methodLink "WitnessWallLaw" 111 yX9_count) ∈ TG := tg_3 (i := 128) rfl rfl
theorem tw_3_129 : (Cond.instanceMethod yX9_count) ∈ TG := tg_3 (i := 129) rfl rfl
theorem tw_3_130 : (Cond.selects "WitnessWall" yX9_count yX9_count) ∈ TG := tg_3 (i := 130) rfl rfl
theorem tw_3_131 : (Cond.code yX9_count cX9_count 2 (some FieldType.int)) ∈ TG := tg_3 (i := 131) rfl rfl
theorem tw_3_132 : (Cond.methodLink "WitnessWall" 217 yX1_unlikeSights) ∈ TG := tg_3 (i := 132) rfl rfl
theorem tw_3_133 : (Cond.instanceMethod yX1_unlikeSights) ∈ TG := tg_3 (i := 133) rfl rfl
theorem tw_3_134 : (Cond.selects "WitnessWall$Hall" yX1_unlikeSights yX1_unlikeSights) ∈ TG := tg_3 (i := 134) rfl rfl
theorem tw_3_135 : (Cond.code yX1_unlikeSights cX1_unlikeSights 3 (some FieldType.int)) ∈ TG := tg_3 (i := 135) rfl rfl
theorem tw_3_136 : (Cond.methodLink "WitnessWall$Hall" 38 yX1_havingSight) ∈ TG := tg_3 (i := 136) rfl rfl
theorem tw_3_137 : (Cond.methodLink "WitnessWallLaw" 115 yX9_digest) ∈ TG := tg_3 (i := 137) rfl rfl
theorem tw_3_138 : (Cond.instanceMethod yX9_digest) ∈ TG := tg_3 (i := 138) rfl rfl
theorem tw_3_139 : (Cond.selects "WitnessWall" yX9_digest yX9_digest) ∈ TG := tg_3 (i := 139) rfl rfl
theorem tw_3_140 : (Cond.code yX9_digest cX9_digest 5 (some FieldType.long)) ∈ TG := tg_3 (i := 140) rfl rfl
theorem tw_3_141 : (Cond.constantLong "WitnessWall" 220 (1361)) ∈ TG := tg_3 (i := 141) rfl rfl
theorem tw_3_142 : (Cond.constantLong "WitnessWall" 222 (31)) ∈ TG := tg_3 (i := 142) rfl rfl
theorem tw_3_143 : (Cond.methodLink "WitnessWall" 224 yX9_witness) ∈ TG := tg_3 (i := 143) rfl rfl
theorem tw_3_144 : (Cond.methodLink "WitnessWall" 227 yX9_said) ∈ TG := tg_3 (i := 144) rfl rfl
theorem tw_3_145 : (Cond.methodLink "WitnessWall" 230 yX9_term) ∈ TG := tg_3 (i := 145) rfl rfl
theorem tw_3_146 : (Cond.methodLink "WitnessWall" 233 yX9_keep) ∈ TG := tg_3 (i := 146) rfl rfl
theorem tw_3_147 : (Cond.methodLink "WitnessWall" 236 yX9_peace) ∈ TG := tg_3 (i := 147) rfl rfl
theorem tw_3_148 : (Cond.methodLink "WitnessWall" 239 yX9_worlds) ∈ TG := tg_3 (i := 148) rfl rfl
theorem tw_3_149 : (Cond.methodLink "WitnessWall" 246 yX9_count) ∈ TG := tg_3 (i := 149) rfl rfl
theorem tw_3_150 : (Cond.classLink "WitnessWallLaw" 10 "WitnessWallModel") ∈ TG := tg_3 (i := 150) rfl rfl
theorem tw_3_151 : (Cond.instantiable "WitnessWallModel" 48) ∈ TG := tg_3 (i := 151) rfl rfl
theorem tw_3_152 : (Cond.methodLink "WitnessWallLaw" 12 yX10_init) ∈ TG := tg_3 (i := 152) rfl rfl
theorem tw_3_153 : (Cond.instanceMethod yX10_init) ∈ TG := tg_3 (i := 153) rfl rfl
theorem tw_3_154 : (Cond.code yX10_init cX10_init 1 none) ∈ TG := tg_3 (i := 154) rfl rfl
theorem tw_3_155 : (Cond.methodLink "WitnessWallModel" 1 objectInit) ∈ TG := tg_3 (i := 155) rfl rfl
theorem tw_3_156 : (Cond.fieldLink "WitnessWallModel" 169 "WitnessWallModel" "walls" "I") ∈ TG := tg_3 (i := 156) rfl rfl
theorem tw_3_157 : (Cond.fieldLink "WitnessWallModel" 157 "WitnessWallModel" "witnesses" "I") ∈ TG := tg_3 (i := 157) rfl rfl
theorem tw_3_158 : (Cond.fieldLink "WitnessWallModel" 7 "WitnessWallModel" "kindOf" "[I") ∈ TG := tg_3 (i := 158) rfl rfl
theorem tw_3_159 : (Cond.fieldLink "WitnessWallModel" 13 "WitnessWallModel" "head" "[I") ∈ TG := tg_3 (i := 159) rfl rfl
theorem tw_3_160 : (Cond.fieldLink "WitnessWallModel" 16 "WitnessWallModel" "heads" "[I") ∈ TG := tg_3 (i := 160) rfl rfl
theorem tw_3_161 : (Cond.fieldLink "WitnessWallModel" 160 "WitnessWallModel" "cases" "I") ∈ TG := tg_3 (i := 161) rfl rfl
theorem tw_3_162 : (Cond.fieldLink "WitnessWallModel" 19 "WitnessWallModel" "caseThing" "[I") ∈ TG := tg_3 (i := 162) rfl rfl
theorem tw_3_163 : (Cond.fieldLink "WitnessWallModel" 22 "WitnessWallModel" "caseDue" "[I") ∈ TG := tg_3 (i := 163) rfl rfl
theorem tw_3_164 : (Cond.fieldLink "WitnessWallModel" 163 "WitnessWallModel" "slips" "I") ∈ TG := tg_3 (i := 164) rfl rfl
theorem tw_3_165 : (Cond.fieldLink "WitnessWallModel" 25 "WitnessWallModel" "slipDay" "[I") ∈ TG := tg_3 (i := 165) rfl rfl
theorem tw_3_166 : (Cond.fieldLink "WitnessWallModel" 28 "WitnessWallModel" "slipWitness" "[I") ∈ TG := tg_3 (i := 166) rfl rfl
theorem tw_3_167 : (Cond.fieldLink "WitnessWallModel" 31 "WitnessWallModel" "slipSight" "[I") ∈ TG := tg_3 (i := 167) rfl rfl
theorem tw_3_168 : (Cond.fieldLink "WitnessWallModel" 166 "WitnessWallModel" "shown" "I") ∈ TG := tg_3 (i := 168) rfl rfl
theorem tw_3_169 : (Cond.fieldLink "WitnessWallModel" 172 "WitnessWallModel" "seen" "I") ∈ TG := tg_3 (i := 169) rfl rfl
theorem tw_3_170 : (Cond.fieldLink "WitnessWallModel" 34 "WitnessWallModel" "seenWitness" "[I") ∈ TG := tg_3 (i := 170) rfl rfl
theorem tw_3_171 : (Cond.fieldLink "WitnessWallModel" 37 "WitnessWallModel" "seenWhat" "[I") ∈ TG := tg_3 (i := 171) rfl rfl
theorem tw_3_172 : (Cond.fieldLink "WitnessWallModel" 40 "WitnessWallModel" "seenCould" "[I") ∈ TG := tg_3 (i := 172) rfl rfl
theorem tw_3_173 : (Cond.fieldLink "WitnessWallModel" 105 "WitnessWallModel" "pageLength" "I") ∈ TG := tg_3 (i := 173) rfl rfl
theorem tw_3_174 : (Cond.fieldLink "WitnessWallModel" 43 "WitnessWallModel" "page" "[B") ∈ TG := tg_3 (i := 174) rfl rfl
theorem tw_3_175 : (Cond.fieldLink "WitnessWallModel" 141 "WitnessWallModel" "isWhole" "Z") ∈ TG := tg_3 (i := 175) rfl rfl
theorem tw_3_176 : (Cond.fieldLink "WitnessWallModel" 131 "WitnessWallModel" "newWitnesses" "I") ∈ TG := tg_3 (i := 176) rfl rfl
theorem tw_3_177 : (Cond.fieldLink "WitnessWallModel" 144 "WitnessWallModel" "newCases" "I") ∈ TG := tg_3 (i := 177) rfl rfl
theorem tw_3_178 : (Cond.fieldLink "WitnessWallModel" 47 "WitnessWallModel" "newKind" "[I") ∈ TG := tg_3 (i := 178) rfl rfl
theorem tw_3_179 : (Cond.fieldLink "WitnessWallModel" 50 "WitnessWallModel" "newHead" "[I") ∈ TG := tg_3 (i := 179) rfl rfl
theorem tw_3_180 : (Cond.fieldLink "WitnessWallModel" 53 "WitnessWallModel" "newHeads" "[I") ∈ TG := tg_3 (i := 180) rfl rfl
theorem tw_3_181 : (Cond.fieldLink "WitnessWallModel" 56 "WitnessWallModel" "newThing" "[I") ∈ TG := tg_3 (i := 181) rfl rfl
theorem tw_3_182 : (Cond.fieldLink "WitnessWallModel" 59 "WitnessWallModel" "newDue" "[I") ∈ TG := tg_3 (i := 182) rfl rfl
theorem tw_3_183 : (Cond.fieldLink "WitnessWallModel" 127 "WitnessWallModel" "isBroken" "Z") ∈ TG := tg_3 (i := 183) rfl rfl
theorem tw_3_184 : (Cond.fieldLink "WitnessWallModel" 62 "WitnessWallModel" "savedHead" "[I") ∈ TG := tg_3 (i := 184) rfl rfl
theorem tw_3_185 : (Cond.fieldLink "WitnessWallModel" 65 "WitnessWallModel" "savedHeads" "[I") ∈ TG := tg_3 (i := 185) rfl rfl
theorem tw_3_186 : (Cond.fieldLink "WitnessWallModel" 68 "WitnessWallModel" "wonOn" "[I") ∈ TG := tg_3 (i := 186) rfl rfl
theorem tw_3_187 : (Cond.fieldLink "WitnessWallModel" 71 "WitnessWallModel" "mostFrom" "[I") ∈ TG := tg_3 (i := 187) rfl rfl
theorem tw_3_188 : (Cond.fieldLink "WitnessWallModel" 279 "WitnessWallModel" "seedNow" "J") ∈ TG := tg_3 (i := 188) rfl rfl
theorem tw_3_189 : (Cond.fieldLink "WitnessWallModel" 296 "WitnessWallModel" "isKept" "Z") ∈ TG := tg_3 (i := 189) rfl rfl
theorem tw_3_190 : (Cond.fieldLink "WitnessWallModel" 299 "WitnessWallModel" "keptWall" "I") ∈ TG := tg_3 (i := 190) rfl rfl
theorem tw_3_191 : (Cond.fieldLink "WitnessWallModel" 302 "WitnessWallModel" "keptSlips" "I") ∈ TG := tg_3 (i := 191) rfl rfl
theorem tw_3_192 : (Cond.fieldLink "WitnessWallModel" 305 "WitnessWallModel" "keptShown" "I") ∈ TG := tg_3 (i := 192) rfl rfl
theorem tw_3_193 : (Cond.fieldLink "WitnessWallModel" 308 "WitnessWallModel" "keptSeen" "I") ∈ TG := tg_3 (i := 193) rfl rfl
theorem tw_3_194 : (Cond.fieldLink "WitnessWallModel" 74 "WitnessWallModel" "keptKind" "[I") ∈ TG := tg_3 (i := 194) rfl rfl
theorem tw_3_195 : (Cond.fieldLink "WitnessWallModel" 77 "WitnessWallModel" "keptHead" "[I") ∈ TG := tg_3 (i := 195) rfl rfl
theorem tw_3_196 : (Cond.fieldLink "WitnessWallModel" 80 "WitnessWallModel" "keptHeads" "[I") ∈ TG := tg_3 (i := 196) rfl rfl
theorem tw_3_197 : (Cond.fieldLink "WitnessWallModel" 83 "WitnessWallModel" "keptDay" "[I") ∈ TG := tg_3 (i := 197) rfl rfl
theorem tw_3_198 : (Cond.fieldLink "WitnessWallModel" 86 "WitnessWallModel" "keptWho" "[I") ∈ TG := tg_3 (i := 198) rfl rfl
theorem tw_3_199 : (Cond.fieldLink "WitnessWallModel" 89 "WitnessWallModel" "keptSight" "[I") ∈ TG := tg_3 (i := 199) rfl rfl
theorem tw_3_200 : (Cond.fieldLink "WitnessWallModel" 92 "WitnessWallModel" "keptWitness" "[I") ∈ TG := tg_3 (i := 200) rfl rfl
theorem tw_3_201 : (Cond.fieldLink "WitnessWallModel" 95 "WitnessWallModel" "keptWhat" "[I") ∈ TG := tg_3 (i := 201) rfl rfl
theorem tw_3_202 : (Cond.fieldLink "WitnessWallModel" 98 "WitnessWallModel" "keptCould" "[I") ∈ TG := tg_3 (i := 202) rfl rfl
theorem tw_3_203 : (Cond.fieldLink "WitnessWallModel" 319 "WitnessWallModel" "h" "J") ∈ TG := tg_3 (i := 203) rfl rfl
theorem tw_3_204 : (Cond.lays "WitnessWallModel" "WitnessWallModel" "walls" "I") ∈ TG := tg_3 (i := 204) rfl rfl
theorem tw_3_206 : (Cond.lays "WitnessWallModel" "WitnessWallModel" "witnesses" "I") ∈ TG := tg_3 (i := 206) rfl rfl
theorem tw_3_208 : (Cond.laysFinal "WitnessWallModel" "WitnessWallModel" "kindOf" "[I") ∈ TG := tg_3 (i := 208) rfl rfl
theorem tw_3_210 : (Cond.laysFinal "WitnessWallModel" "WitnessWallModel" "head" "[I") ∈ TG := tg_3 (i := 210) rfl rfl
theorem tw_3_212 : (Cond.laysFinal "WitnessWallModel" "WitnessWallModel" "heads" "[I") ∈ TG := tg_3 (i := 212) rfl rfl
theorem tw_3_214 : (Cond.lays "WitnessWallModel" "WitnessWallModel" "cases" "I") ∈ TG := tg_3 (i := 214) rfl rfl
theorem tw_3_216 : (Cond.laysFinal "WitnessWallModel" "WitnessWallModel" "caseThing" "[I") ∈ TG := tg_3 (i := 216) rfl rfl
theorem tw_3_218 : (Cond.laysFinal "WitnessWallModel" "WitnessWallModel" "caseDue" "[I") ∈ TG := tg_3 (i := 218) rfl rfl
theorem tw_3_220 : (Cond.lays "WitnessWallModel" "WitnessWallModel" "slips" "I") ∈ TG := tg_3 (i := 220) rfl rfl
theorem tw_3_222 : (Cond.laysFinal "WitnessWallModel" "WitnessWallModel" "slipDay" "[I") ∈ TG := tg_3 (i := 222) rfl rfl
theorem tw_3_224 : (Cond.laysFinal "WitnessWallModel" "WitnessWallModel" "slipWitness" "[I") ∈ TG := tg_3 (i := 224) rfl rfl
theorem tw_3_226 : (Cond.laysFinal "WitnessWallModel" "WitnessWallModel" "slipSight" "[I") ∈ TG := tg_3 (i := 226) rfl rfl
theorem tw_3_228 : (Cond.lays "WitnessWallModel" "WitnessWallModel" "shown" "I") ∈ TG := tg_3 (i := 228) rfl rfl
theorem tw_3_230 : (Cond.lays "WitnessWallModel" "WitnessWallModel" "seen" "I") ∈ TG := tg_3 (i := 230) rfl rfl
theorem tw_3_232 : (Cond.laysFinal "WitnessWallModel" "WitnessWallModel" "seenWitness" "[I") ∈ TG := tg_3 (i := 232) rfl rfl
theorem tw_3_234 : (Cond.laysFinal "WitnessWallModel" "WitnessWallModel" "seenWhat" "[I") ∈ TG := tg_3 (i := 234) rfl rfl
theorem tw_3_236 : (Cond.laysFinal "WitnessWallModel" "WitnessWallModel" "seenCould" "[I") ∈ TG := tg_3 (i := 236) rfl rfl
theorem tw_3_238 : (Cond.lays "WitnessWallModel" "WitnessWallModel" "pageLength" "I") ∈ TG := tg_3 (i := 238) rfl rfl
theorem tw_4_0 : (Cond.laysFinal "WitnessWallModel" "WitnessWallModel" "page" "[B") ∈ TG := tg_4 (i := 0) rfl rfl
theorem tw_4_2 : (Cond.lays "WitnessWallModel" "WitnessWallModel" "isWhole" "Z") ∈ TG := tg_4 (i := 2) rfl rfl
theorem tw_4_4 : (Cond.lays "WitnessWallModel" "WitnessWallModel" "newWitnesses" "I") ∈ TG := tg_4 (i := 4) rfl rfl
theorem tw_4_6 : (Cond.lays "WitnessWallModel" "WitnessWallModel" "newCases" "I") ∈ TG := tg_4 (i := 6) rfl rfl
theorem tw_4_8 : (Cond.laysFinal "WitnessWallModel" "WitnessWallModel" "newKind" "[I") ∈ TG := tg_4 (i := 8) rfl rfl
theorem tw_4_10 : (Cond.laysFinal "WitnessWallModel" "WitnessWallModel" "newHead" "[I") ∈ TG := tg_4 (i := 10) rfl rfl
theorem tw_4_12 : (Cond.laysFinal "WitnessWallModel" "WitnessWallModel" "newHeads" "[I") ∈ TG := tg_4 (i := 12) rfl rfl
theorem tw_4_14 : (Cond.laysFinal "WitnessWallModel" "WitnessWallModel" "newThing" "[I") ∈ TG := tg_4 (i := 14) rfl rfl
theorem tw_4_16 : (Cond.laysFinal "WitnessWallModel" "WitnessWallModel" "newDue" "[I") ∈ TG := tg_4 (i := 16) rfl rfl
theorem tw_4_18 : (Cond.lays "WitnessWallModel" "WitnessWallModel" "isBroken" "Z") ∈ TG := tg_4 (i := 18) rfl rfl
theorem tw_4_20 : (Cond.laysFinal "WitnessWallModel" "WitnessWallModel" "savedHead" "[I") ∈ TG := tg_4 (i := 20) rfl rfl
theorem tw_4_22 : (Cond.laysFinal "WitnessWallModel" "WitnessWallModel" "savedHeads" "[I") ∈ TG := tg_4 (i := 22) rfl rfl
theorem tw_4_24 : (Cond.laysFinal "WitnessWallModel" "WitnessWallModel" "wonOn" "[I") ∈ TG := tg_4 (i := 24) rfl rfl
theorem tw_4_26 : (Cond.laysFinal "WitnessWallModel" "WitnessWallModel" "mostFrom" "[I") ∈ TG := tg_4 (i := 26) rfl rfl
theorem tw_4_28 : (Cond.lays "WitnessWallModel" "WitnessWallModel" "seedNow" "J") ∈ TG := tg_4 (i := 28) rfl rfl
theorem tw_4_30 : (Cond.lays "WitnessWallModel" "WitnessWallModel" "isKept" "Z") ∈ TG := tg_4 (i := 30) rfl rfl
theorem tw_4_32 : (Cond.lays "WitnessWallModel" "WitnessWallModel" "keptWall" "I") ∈ TG := tg_4 (i := 32) rfl rfl
theorem tw_4_34 : (Cond.lays "WitnessWallModel" "WitnessWallModel" "keptSlips" "I") ∈ TG := tg_4 (i := 34) rfl rfl
theorem tw_4_36 : (Cond.lays "WitnessWallModel" "WitnessWallModel" "keptShown" "I") ∈ TG := tg_4 (i := 36) rfl rfl
theorem tw_4_38 : (Cond.lays "WitnessWallModel" "WitnessWallModel" "keptSeen" "I") ∈ TG := tg_4 (i := 38) rfl rfl
theorem tw_4_40 : (Cond.laysFinal "WitnessWallModel" "WitnessWallModel" "keptKind" "[I") ∈ TG := tg_4 (i := 40) rfl rfl
theorem tw_4_42 : (Cond.laysFinal "WitnessWallModel" "WitnessWallModel" "keptHead" "[I") ∈ TG := tg_4 (i := 42) rfl rfl
theorem tw_4_44 : (Cond.laysFinal "WitnessWallModel" "WitnessWallModel" "keptHeads" "[I") ∈ TG := tg_4 (i := 44) rfl rfl
theorem tw_4_46 : (Cond.laysFinal "WitnessWallModel" "WitnessWallModel" "keptDay" "[I") ∈ TG := tg_4 (i := 46) rfl rfl
theorem tw_4_48 : (Cond.laysFinal "WitnessWallModel" "WitnessWallModel" "keptWho" "[I") ∈ TG := tg_4 (i := 48) rfl rfl
theorem tw_4_50 : (Cond.laysFinal "WitnessWallModel" "WitnessWallModel" "keptSight" "[I") ∈ TG := tg_4 (i := 50) rfl rfl
theorem tw_4_52 : (Cond.laysFinal "WitnessWallModel" "WitnessWallModel" "keptWitness" "[I") ∈ TG := tg_4 (i := 52) rfl rfl
theorem tw_4_54 : (Cond.laysFinal "WitnessWallModel" "WitnessWallModel" "keptWhat" "[I") ∈ TG := tg_4 (i := 54) rfl rfl
theorem tw_4_56 : (Cond.laysFinal "WitnessWallModel" "WitnessWallModel" "keptCould" "[I") ∈ TG := tg_4 (i := 56) rfl rfl
theorem tw_4_58 : (Cond.lays "WitnessWallModel" "WitnessWallModel" "h" "J") ∈ TG := tg_4 (i := 58) rfl rfl
theorem tw_4_61 : (Cond.arrayClass FieldType.byte) ∈ TG := tg_4 (i := 61) rfl rfl
theorem tw_4_62 : (Cond.methodLink "WitnessWallLaw" 17 yX10_letter) ∈ TG := tg_4 (i := 62) rfl rfl
theorem tw_4_63 : (Cond.instanceMethod yX10_letter) ∈ TG := tg_4 (i := 63) rfl rfl
theorem tw_4_64 : (Cond.selects "WitnessWallModel" yX10_letter yX10_letter) ∈ TG := tg_4 (i := 64) rfl rfl
theorem tw_4_65 : (Cond.code yX10_letter cX10_letter 2 (some FieldType.int)) ∈ TG := tg_4 (i := 65) rfl rfl
theorem tw_4_66 : (Cond.methodLink "WitnessWallModel" 101 yX10_within) ∈ TG := tg_4 (i := 66) rfl rfl
theorem tw_4_67 : (Cond.static yX10_within) ∈ TG := tg_4 (i := 67) rfl rfl
theorem tw_4_68 : (Cond.code yX10_within cX10_within 3 (some FieldType.boolean)) ∈ TG := tg_4 (i := 68) rfl rfl
theorem tw_4_69 : (Cond.methodLink "WitnessWallLaw" 22 yX10_blank) ∈ TG := tg_4 (i := 69) rfl rfl
theorem tw_4_70 : (Cond.instanceMethod yX10_blank) ∈ TG := tg_4 (i := 70) rfl rfl
theorem tw_4_71 : (Cond.selects "WitnessWallModel" yX10_blank yX10_blank) ∈ TG := tg_4 (i := 71) rfl rfl
theorem tw_4_72 : (Cond.code yX10_blank cX10_blank 2 (some FieldType.int)) ∈ TG := tg_4 (i := 72) rfl rfl
theorem tw_4_73 : (Cond.methodLink "WitnessWallLaw" 26 yX10_fault) ∈ TG := tg_4 (i := 73) rfl rfl
theorem tw_4_74 : (Cond.instanceMethod yX10_fault) ∈ TG := tg_4 (i := 74) rfl rfl
theorem tw_4_75 : (Cond.selects "WitnessWallModel" yX10_fault yX10_fault) ∈ TG := tg_4 (i := 75) rfl rfl
theorem tw_4_76 : (Cond.code yX10_fault cX10_fault 1 (some FieldType.int)) ∈ TG := tg_4 (i := 76) rfl rfl
theorem tw_4_77 : (Cond.methodLink "WitnessWallModel" 154 yX10_read) ∈ TG := tg_4 (i := 77) rfl rfl
theorem tw_4_79 : (Cond.instanceMethod yX10_read) ∈ TG := tg_4 (i := 79) rfl rfl
theorem tw_4_80 : (Cond.code yX10_read cX10_read 2 (some FieldType.int)) ∈ TG := tg_4 (i := 80) rfl rfl
theorem tw_4_81 : (Cond.methodLink "WitnessWallModel" 147 yX10_readWitnesses) ∈ TG := tg_4 (i := 81) rfl rfl
theorem tw_4_83 : (Cond.instanceMethod yX10_readWitnesses) ∈ TG := tg_4 (i := 83) rfl rfl
theorem tw_4_84 : (Cond.code yX10_readWitnesses cX10_readWitnesses 2 (some FieldType.int)) ∈ TG := tg_4 (i := 84) rfl rfl
theorem tw_4_85 : (Cond.methodLink "WitnessWallModel" 109 yX10_at) ∈ TG := tg_4 (i := 85) rfl rfl
theorem tw_4_87 : (Cond.instanceMethod yX10_at) ∈ TG := tg_4 (i := 87) rfl rfl
theorem tw_4_88 : (Cond.code yX10_at cX10_at 2 (some FieldType.int)) ∈ TG := tg_4 (i := 88) rfl rfl
theorem tw_4_89 : (Cond.methodLink "WitnessWallModel" 134 yX10_kindBy) ∈ TG := tg_4 (i := 89) rfl rfl
theorem tw_4_90 : (Cond.static yX10_kindBy) ∈ TG := tg_4 (i := 90) rfl rfl
theorem tw_4_91 : (Cond.code yX10_kindBy cX10_kindBy 1 (some FieldType.int)) ∈ TG := tg_4 (i := 91) rfl rfl
theorem tw_4_92 : (Cond.methodLink "WitnessWallModel" 137 yX10_readSights) ∈ TG := tg_4 (i := 92) rfl rfl
theorem tw_4_94 : (Cond.instanceMethod yX10_readSights) ∈ TG := tg_4 (i := 94) rfl rfl
theorem tw_4_95 : (Cond.code yX10_readSights cX10_readSights 4 (some FieldType.int)) ∈ TG := tg_4 (i := 95) rfl rfl
theorem tw_4_96 : (Cond.methodLink "WitnessWallModel" 113 yX10_isThing) ∈ TG := tg_4 (i := 96) rfl rfl
theorem tw_4_98 : (Cond.instanceMethod yX10_isThing) ∈ TG := tg_4 (i := 98) rfl rfl
theorem tw_4_99 : (Cond.code yX10_isThing cX10_isThing 2 (some FieldType.boolean)) ∈ TG := tg_4 (i := 99) rfl rfl
theorem tw_4_100 : (Cond.methodLink "WitnessWallModel" 117 yX10_isDigit) ∈ TG := tg_4 (i := 100) rfl rfl
theorem tw_4_102 : (Cond.instanceMethod yX10_isDigit) ∈ TG := tg_4 (i := 102) rfl rfl
theorem tw_4_103 : (Cond.code yX10_isDigit cX10_isDigit 4 (some FieldType.boolean)) ∈ TG := tg_4 (i := 103) rfl rfl
theorem tw_4_104 : (Cond.methodLink "WitnessWallModel" 120 yX10_sightAt) ∈ TG := tg_4 (i := 104) rfl rfl
theorem tw_4_106 : (Cond.instanceMethod yX10_sightAt) ∈ TG := tg_4 (i := 106) rfl rfl
theorem tw_4_107 : (Cond.code yX10_sightAt cX10_sightAt 2 (some FieldType.int)) ∈ TG := tg_4 (i := 107) rfl rfl
theorem tw_4_108 : (Cond.methodLink "WitnessWallModel" 123 yX10_isTold) ∈ TG := tg_4 (i := 108) rfl rfl
theorem tw_4_110 : (Cond.instanceMethod yX10_isTold) ∈ TG := tg_4 (i := 110) rfl rfl
theorem tw_4_111 : (Cond.code yX10_isTold cX10_isTold 5 (some FieldType.boolean)) ∈ TG := tg_4 (i := 111) rfl rfl
theorem tw_4_112 : (Cond.methodLink "WitnessWallModel" 151 yX10_readCases) ∈ TG := tg_4 (i := 112) rfl rfl
theorem tw_4_114 : (Cond.instanceMethod yX10_readCases) ∈ TG := tg_4 (i := 114) rfl rfl
theorem tw_4_115 : (Cond.code yX10_readCases cX10_readCases 3 (some FieldType.int)) ∈ TG := tg_4 (i := 115) rfl rfl
theorem tw_4_116 : (Cond.methodLink "WitnessWallLaw" 30 yX10_wall) ∈ TG := tg_4 (i := 116) rfl rfl
theorem tw_4_117 : (Cond.instanceMethod yX10_wall) ∈ TG := tg_4 (i := 117) rfl rfl
theorem tw_4_118 : (Cond.selects "WitnessWallModel" yX10_wall yX10_wall) ∈ TG := tg_4 (i := 118) rfl rfl
theorem tw_4_119 : (Cond.code yX10_wall cX10_wall 3 (some FieldType.int)) ∈ TG := tg_4 (i := 119) rfl rfl
theorem tw_4_120 : (Cond.methodLink "WitnessWallLaw" 35 yX10_witness) ∈ TG := tg_4 (i := 120) rfl rfl
theorem tw_4_121 : (Cond.instanceMethod yX10_witness) ∈ TG := tg_4 (i := 121) rfl rfl
theorem tw_4_122 : (Cond.selects "WitnessWallModel" yX10_witness yX10_witness) ∈ TG := tg_4 (i := 122) rfl rfl
theorem tw_4_123 : (Cond.code yX10_witness cX10_witness 3 (some FieldType.int)) ∈ TG := tg_4 (i := 123) rfl rfl
theorem tw_4_124 : (Cond.methodLink "WitnessWallModel" 196 yX10_isWitness) ∈ TG := tg_4 (i := 124) rfl rfl
theorem tw_4_126 : (Cond.instanceMethod yX10_isWitness) ∈ TG := tg_4 (i := 126) rfl rfl
theorem tw_4_127 : (Cond.code yX10_isWitness cX10_isWitness 2 (some FieldType.boolean)) ∈ TG := tg_4 (i := 127) rfl rfl
theorem tw_4_128 : (Cond.methodLink "WitnessWallModel" 199 yX10_witnessNow) ∈ TG := tg_4 (i := 128) rfl rfl
theorem tw_4_130 : (Cond.instanceMethod yX10_witnessNow) ∈ TG := tg_4 (i := 130) rfl rfl
theorem tw_4_131 : (Cond.code yX10_witnessNow cX10_witnessNow 3 (some FieldType.int)) ∈ TG := tg_4 (i := 131) rfl rfl
theorem tw_4_132 : (Cond.methodLink "WitnessWallModel" 187 yX10_sortsOf) ∈ TG := tg_4 (i := 132) rfl rfl
theorem tw_4_134 : (Cond.instanceMethod yX10_sortsOf) ∈ TG := tg_4 (i := 134) rfl rfl
theorem tw_4_135 : (Cond.code yX10_sortsOf cX10_sortsOf 6 (some FieldType.int)) ∈ TG := tg_4 (i := 135) rfl rfl
theorem tw_4_136 : (Cond.methodLink "WitnessWallModel" 274 yX10_could) ∈ TG := tg_4 (i := 136) rfl rfl
theorem tw_4_137 : (Cond.static yX10_could) ∈ TG := tg_4 (i := 137) rfl rfl
theorem tw_4_138 : (Cond.code yX10_could cX10_could 2 (some FieldType.boolean)) ∈ TG := tg_4 (i := 138) rfl rfl
theorem tw_4_139 : (Cond.methodLink "WitnessWallModel" 190 yX10_askOf) ∈ TG := tg_4 (i := 139) rfl rfl
theorem tw_4_141 : (Cond.instanceMethod yX10_askOf) ∈ TG := tg_4 (i := 141) rfl rfl
theorem tw_4_142 : (Cond.code yX10_askOf cX10_askOf 9 (some FieldType.int)) ∈ TG := tg_4 (i := 142) rfl rfl
theorem tw_4_143 : (Cond.constant "WitnessWallModel" 230 (268435456)) ∈ TG := tg_4 (i := 143) rfl rfl
theorem tw_4_144 : (Cond.methodLink "WitnessWallModel" 184 yX10_isIn) ∈ TG := tg_4 (i := 144) rfl rfl
theorem tw_4_145 : (Cond.static yX10_isIn) ∈ TG := tg_4 (i := 145) rfl rfl
theorem tw_4_146 : (Cond.code yX10_isIn cX10_isIn 2 (some FieldType.boolean)) ∈ TG := tg_4 (i := 146) rfl rfl
theorem tw_4_147 : (Cond.methodLink "WitnessWallModel" 243 yX10_size) ∈ TG := tg_4 (i := 147) rfl rfl
theorem tw_4_148 : (Cond.static yX10_size) ∈ TG := tg_4 (i := 148) rfl rfl
theorem tw_4_149 : (Cond.code yX10_size cX10_size 3 (some FieldType.int)) ∈ TG := tg_4 (i := 149) rfl rfl
theorem tw_4_150 : (Cond.methodLink "WitnessWallModel" 193 yX10_clashesOf) ∈ TG := tg_4 (i := 150) rfl rfl
theorem tw_4_152 : (Cond.instanceMethod yX10_clashesOf) ∈ TG := tg_4 (i := 152) rfl rfl
theorem tw_4_153 : (Cond.code yX10_clashesOf cX10_clashesOf 4 (some FieldType.int)) ∈ TG := tg_4 (i := 153) rfl rfl
theorem tw_4_154 : (Cond.methodLink "WitnessWallModel" 181 yX10_clashesOfTwo) ∈ TG := tg_4 (i := 154) rfl rfl
theorem tw_4_156 : (Cond.instanceMethod yX10_clashesOfTwo) ∈ TG := tg_4 (i := 156) rfl rfl
theorem tw_4_157 : (Cond.code yX10_clashesOfTwo cX10_clashesOfTwo 6 (some FieldType.int)) ∈ TG := tg_4 (i := 157) rfl rfl
theorem tw_4_158 : (Cond.methodLink "WitnessWallModel" 178 yX10_hasThing) ∈ TG := tg_4 (i := 158) rfl rfl
theorem tw_4_160 : (Cond.instanceMethod yX10_hasThing) ∈ TG := tg_4 (i := 160) rfl rfl
theorem tw_4_161 : (Cond.code yX10_hasThing cX10_hasThing 3 (some FieldType.boolean)) ∈ TG := tg_4 (i := 161) rfl rfl
theorem tw_4_162 : (Cond.methodLink "WitnessWallModel" 175 yX10_tellsNow) ∈ TG := tg_4 (i := 162) rfl rfl
theorem tw_4_164 : (Cond.instanceMethod yX10_tellsNow) ∈ TG := tg_4 (i := 164) rfl rfl
theorem tw_4_165 : (Cond.code yX10_tellsNow cX10_tellsNow 5 (some FieldType.int)) ∈ TG := tg_4 (i := 165) rfl rfl
theorem tw_4_166 : (Cond.methodLink "WitnessWallLaw" 39 yX10_as) ∈ TG := tg_4 (i := 166) rfl rfl
theorem tw_4_167 : (Cond.instanceMethod yX10_as) ∈ TG := tg_4 (i := 167) rfl rfl
theorem tw_4_168 : (Cond.selects "WitnessWallModel" yX10_as yX10_as) ∈ TG := tg_4 (i := 168) rfl rfl
theorem tw_4_169 : (Cond.code yX10_as cX10_as 4 (some FieldType.int)) ∈ TG := tg_4 (i := 169) rfl rfl
theorem tw_4_170 : (Cond.methodLink "WitnessWallLaw" 43 yX10_tells) ∈ TG := tg_4 (i := 170) rfl rfl
theorem tw_4_171 : (Cond.instanceMethod yX10_tells) ∈ TG := tg_4 (i := 171) rfl rfl
theorem tw_4_172 : (Cond.selects "WitnessWallModel" yX10_tells yX10_tells) ∈ TG := tg_4 (i := 172) rfl rfl
theorem tw_4_173 : (Cond.code yX10_tells cX10_tells 3 (some FieldType.int)) ∈ TG := tg_4 (i := 173) rfl rfl
theorem tw_4_174 : (Cond.methodLink "WitnessWallLaw" 47 yX10_said) ∈ TG := tg_4 (i := 174) rfl rfl
theorem tw_4_175 : (Cond.instanceMethod yX10_said) ∈ TG := tg_4 (i := 175) rfl rfl
theorem tw_4_176 : (Cond.selects "WitnessWallModel" yX10_said yX10_said) ∈ TG := tg_4 (i := 176) rfl rfl
theorem tw_4_177 : (Cond.code yX10_said cX10_said 2 (some FieldType.int)) ∈ TG := tg_4 (i := 177) rfl rfl
theorem tw_4_178 : (Cond.methodLink "WitnessWallModel" 202 yX10_everybody) ∈ TG := tg_4 (i := 178) rfl rfl
theorem tw_4_180 : (Cond.instanceMethod yX10_everybody) ∈ TG := tg_4 (i := 180) rfl rfl
theorem tw_4_181 : (Cond.code yX10_everybody cX10_everybody 1 (some FieldType.int)) ∈ TG := tg_4 (i := 181) rfl rfl
theorem tw_4_182 : (Cond.methodLink "WitnessWallModel" 205 yX10_saidBy) ∈ TG := tg_4 (i := 182) rfl rfl
theorem tw_4_184 : (Cond.instanceMethod yX10_saidBy) ∈ TG := tg_4 (i := 184) rfl rfl
theorem tw_4_185 : (Cond.code yX10_saidBy cX10_saidBy 9 (some FieldType.int)) ∈ TG := tg_4 (i := 185) rfl rfl
theorem tw_4_186 : (Cond.methodLink "WitnessWallLaw" 51 yX10_having) ∈ TG := tg_4 (i := 186) rfl rfl
theorem tw_4_187 : (Cond.instanceMethod yX10_having) ∈ TG := tg_4 (i := 187) rfl rfl
theorem tw_4_188 : (Cond.selects "WitnessWallModel" yX10_having yX10_having) ∈ TG := tg_4 (i := 188) rfl rfl
theorem tw_4_189 : (Cond.code yX10_having cX10_having 5 (some FieldType.int)) ∈ TG := tg_4 (i := 189) rfl rfl
theorem tw_4_190 : (Cond.methodLink "WitnessWallModel" 208 yX10_isSight) ∈ TG := tg_4 (i := 190) rfl rfl
theorem tw_4_191 : (Cond.static yX10_isSight) ∈ TG := tg_4 (i := 191) rfl rfl
theorem tw_4_192 : (Cond.code yX10_isSight cX10_isSight 2 (some FieldType.boolean)) ∈ TG := tg_4 (i := 192) rfl rfl
theorem tw_4_193 : (Cond.methodLink "WitnessWallModel" 211 yX10_has) ∈ TG := tg_4 (i := 193) rfl rfl
theorem tw_4_195 : (Cond.instanceMethod yX10_has) ∈ TG := tg_4 (i := 195) rfl rfl
theorem tw_4_196 : (Cond.code yX10_has cX10_has 5 (some FieldType.boolean)) ∈ TG := tg_4 (i := 196) rfl rfl
theorem tw_4_197 : (Cond.methodLink "WitnessWallLaw" 56 yX10_show) ∈ TG := tg_4 (i := 197) rfl rfl
theorem tw_4_198 : (Cond.instanceMethod yX10_show) ∈ TG := tg_4 (i := 198) rfl rfl
theorem tw_4_199 : (Cond.selects "WitnessWallModel" yX10_show yX10_show) ∈ TG := tg_4 (i := 199) rfl rfl
theorem tw_4_200 : (Cond.code yX10_show cX10_show 4 (some FieldType.int)) ∈ TG := tg_4 (i := 200) rfl rfl
theorem tw_4_201 : (Cond.methodLink "WitnessWallModel" 221 yX10_showNow) ∈ TG := tg_4 (i := 201) rfl rfl
theorem tw_4_203 : (Cond.instanceMethod yX10_showNow) ∈ TG := tg_4 (i := 203) rfl rfl
theorem tw_4_204 : (Cond.code yX10_showNow cX10_showNow 5 (some FieldType.boolean)) ∈ TG := tg_4 (i := 204) rfl rfl
theorem tw_4_205 : (Cond.methodLink "WitnessWallModel" 214 yX10_takes) ∈ TG := tg_4 (i := 205) rfl rfl
theorem tw_4_206 : (Cond.static yX10_takes) ∈ TG := tg_4 (i := 206) rfl rfl
theorem tw_4_207 : (Cond.code yX10_takes cX10_takes 2 (some FieldType.boolean)) ∈ TG := tg_4 (i := 207) rfl rfl
theorem tw_4_208 : (Cond.methodLink "WitnessWallModel" 218 yX10_goes) ∈ TG := tg_4 (i := 208) rfl rfl
theorem tw_4_209 : (Cond.static yX10_goes) ∈ TG := tg_4 (i := 209) rfl rfl
theorem tw_4_210 : (Cond.code yX10_goes cX10_goes 3 (some FieldType.boolean)) ∈ TG := tg_4 (i := 210) rfl rfl
theorem tw_4_211 : (Cond.methodLink "WitnessWallLaw" 60 yX10_be) ∈ TG := tg_4 (i := 211) rfl rfl
theorem tw_4_212 : (Cond.instanceMethod yX10_be) ∈ TG := tg_4 (i := 212) rfl rfl
theorem tw_4_213 : (Cond.selects "WitnessWallModel" yX10_be yX10_be) ∈ TG := tg_4 (i := 213) rfl rfl
theorem tw_4_214 : (Cond.code yX10_be cX10_be 4 (some FieldType.int)) ∈ TG := tg_4 (i := 214) rfl rfl
theorem tw_4_215 : (Cond.methodLink "WitnessWallLaw" 65 yX10_slip) ∈ TG := tg_4 (i := 215) rfl rfl
theorem tw_4_216 : (Cond.instanceMethod yX10_slip) ∈ TG := tg_4 (i := 216) rfl rfl
theorem tw_4_217 : (Cond.selects "WitnessWallModel" yX10_slip yX10_slip) ∈ TG := tg_4 (i := 217) rfl rfl
theorem tw_4_218 : (Cond.code yX10_slip cX10_slip 5 (some FieldType.int)) ∈ TG := tg_4 (i := 218) rfl rfl
theorem tw_4_219 : (Cond.methodLink "WitnessWallLaw" 69 yX10_tear) ∈ TG := tg_4 (i := 219) rfl rfl
theorem tw_4_220 : (Cond.instanceMethod yX10_tear) ∈ TG := tg_4 (i := 220) rfl rfl
theorem tw_4_221 : (Cond.selects "WitnessWallModel" yX10_tear yX10_tear) ∈ TG := tg_4 (i := 221) rfl rfl
theorem tw_4_222 : (Cond.code yX10_tear cX10_tear 2 (some FieldType.int)) ∈ TG := tg_4 (i := 222) rfl rfl
theorem tw_4_223 : (Cond.methodLink "WitnessWallLaw" 73 yX10_term) ∈ TG := tg_4 (i := 223) rfl rfl
theorem tw_4_224 : (Cond.instanceMethod yX10_term) ∈ TG := tg_4 (i := 224) rfl rfl
theorem tw_4_225 : (Cond.selects "WitnessWallModel" yX10_term yX10_term) ∈ TG := tg_4 (i := 225) rfl rfl
theorem tw_4_226 : (Cond.code yX10_term cX10_term 2 (some FieldType.int)) ∈ TG := tg_4 (i := 226) rfl rfl
theorem tw_4_227 : (Cond.methodLink "WitnessWallModel" 240 yX10_termNow) ∈ TG := tg_4 (i := 227) rfl rfl
theorem tw_4_229 : (Cond.instanceMethod yX10_termNow) ∈ TG := tg_4 (i := 229) rfl rfl
theorem tw_4_230 : (Cond.code yX10_termNow cX10_termNow 2 (some FieldType.int)) ∈ TG := tg_4 (i := 230) rfl rfl
theorem tw_4_231 : (Cond.methodLink "WitnessWallModel" 231 yX10_layTerm) ∈ TG := tg_4 (i := 231) rfl rfl
theorem tw_4_233 : (Cond.instanceMethod yX10_layTerm) ∈ TG := tg_4 (i := 233) rfl rfl
theorem tw_4_234 : (Cond.code yX10_layTerm cX10_layTerm 4 none) ∈ TG := tg_4 (i := 234) rfl rfl
theorem tw_4_235 : (Cond.methodLink "WitnessWallModel" 224 yX10_lay) ∈ TG := tg_4 (i := 235) rfl rfl
theorem tw_4_237 : (Cond.instanceMethod yX10_lay) ∈ TG := tg_4 (i := 237) rfl rfl
theorem tw_4_238 : (Cond.code yX10_lay cX10_lay 2 none) ∈ TG := tg_4 (i := 238) rfl rfl
theorem tw_4_239 : (Cond.methodLink "WitnessWallModel" 227 yX10_layBack) ∈ TG := tg_4 (i := 239) rfl rfl
theorem tw_5_1 : (Cond.instanceMethod yX10_layBack) ∈ TG := tg_5 (i := 1) rfl rfl
theorem tw_5_2 : (Cond.code yX10_layBack cX10_layBack 2 none) ∈ TG := tg_5 (i := 2) rfl rfl
theorem tw_5_3 : (Cond.methodLink "WitnessWallModel" 234 yX10_layMost) ∈ TG := tg_5 (i := 3) rfl rfl
theorem tw_5_5 : (Cond.instanceMethod yX10_layMost) ∈ TG := tg_5 (i := 5) rfl rfl
theorem tw_5_6 : (Cond.code yX10_layMost cX10_layMost 7 none) ∈ TG := tg_5 (i := 6) rfl rfl
theorem tw_5_7 : (Cond.methodLink "WitnessWallModel" 237 yX10_orderNow) ∈ TG := tg_5 (i := 7) rfl rfl
theorem tw_5_9 : (Cond.instanceMethod yX10_orderNow) ∈ TG := tg_5 (i := 9) rfl rfl
theorem tw_5_10 : (Cond.code yX10_orderNow cX10_orderNow 8 (some FieldType.int)) ∈ TG := tg_5 (i := 10) rfl rfl
theorem tw_5_11 : (Cond.methodLink "WitnessWallLaw" 77 yX10_keep) ∈ TG := tg_5 (i := 11) rfl rfl
theorem tw_5_12 : (Cond.instanceMethod yX10_keep) ∈ TG := tg_5 (i := 12) rfl rfl
theorem tw_5_13 : (Cond.selects "WitnessWallModel" yX10_keep yX10_keep) ∈ TG := tg_5 (i := 13) rfl rfl
theorem tw_5_14 : (Cond.code yX10_keep cX10_keep 2 (some FieldType.int)) ∈ TG := tg_5 (i := 14) rfl rfl
theorem tw_5_15 : (Cond.methodLink "WitnessWallModel" 249 yX10_keepSet) ∈ TG := tg_5 (i := 15) rfl rfl
theorem tw_5_17 : (Cond.instanceMethod yX10_keepSet) ∈ TG := tg_5 (i := 17) rfl rfl
theorem tw_5_18 : (Cond.code yX10_keepSet cX10_keepSet 3 (some FieldType.int)) ∈ TG := tg_5 (i := 18) rfl rfl
theorem tw_5_19 : (Cond.methodLink "WitnessWallModel" 246 yX10_isSaidSo) ∈ TG := tg_5 (i := 19) rfl rfl
theorem tw_5_21 : (Cond.instanceMethod yX10_isSaidSo) ∈ TG := tg_5 (i := 21) rfl rfl
theorem tw_5_22 : (Cond.code yX10_isSaidSo cX10_isSaidSo 4 (some FieldType.boolean)) ∈ TG := tg_5 (i := 22) rfl rfl
theorem tw_5_23 : (Cond.methodLink "WitnessWallLaw" 81 yX10_peace) ∈ TG := tg_5 (i := 23) rfl rfl
theorem tw_5_24 : (Cond.instanceMethod yX10_peace) ∈ TG := tg_5 (i := 24) rfl rfl
theorem tw_5_25 : (Cond.selects "WitnessWallModel" yX10_peace yX10_peace) ∈ TG := tg_5 (i := 25) rfl rfl
theorem tw_5_26 : (Cond.code yX10_peace cX10_peace 2 (some FieldType.int)) ∈ TG := tg_5 (i := 26) rfl rfl
theorem tw_5_27 : (Cond.methodLink "WitnessWallModel" 255 yX10_peaceSet) ∈ TG := tg_5 (i := 27) rfl rfl
theorem tw_5_29 : (Cond.instanceMethod yX10_peaceSet) ∈ TG := tg_5 (i := 29) rfl rfl
theorem tw_5_30 : (Cond.code yX10_peaceSet cX10_peaceSet 3 (some FieldType.int)) ∈ TG := tg_5 (i := 30) rfl rfl
theorem tw_5_31 : (Cond.methodLink "WitnessWallModel" 252 yX10_clashesAmong) ∈ TG := tg_5 (i := 31) rfl rfl
theorem tw_5_33 : (Cond.instanceMethod yX10_clashesAmong) ∈ TG := tg_5 (i := 33) rfl rfl
theorem tw_5_34 : (Cond.code yX10_clashesAmong cX10_clashesAmong 5 (some FieldType.int)) ∈ TG := tg_5 (i := 34) rfl rfl
theorem tw_5_35 : (Cond.methodLink "WitnessWallLaw" 85 yX10_worlds) ∈ TG := tg_5 (i := 35) rfl rfl
theorem tw_5_36 : (Cond.instanceMethod yX10_worlds) ∈ TG := tg_5 (i := 36) rfl rfl
theorem tw_5_37 : (Cond.selects "WitnessWallModel" yX10_worlds yX10_worlds) ∈ TG := tg_5 (i := 37) rfl rfl
theorem tw_5_38 : (Cond.code yX10_worlds cX10_worlds 2 (some FieldType.int)) ∈ TG := tg_5 (i := 38) rfl rfl
theorem tw_5_39 : (Cond.methodLink "WitnessWallModel" 264 yX10_worldsNow) ∈ TG := tg_5 (i := 39) rfl rfl
theorem tw_5_41 : (Cond.instanceMethod yX10_worldsNow) ∈ TG := tg_5 (i := 41) rfl rfl
theorem tw_5_42 : (Cond.code yX10_worldsNow cX10_worldsNow 4 (some FieldType.int)) ∈ TG := tg_5 (i := 42) rfl rfl
theorem tw_5_43 : (Cond.methodLink "WitnessWallModel" 261 yX10_isWorld) ∈ TG := tg_5 (i := 43) rfl rfl
theorem tw_5_45 : (Cond.instanceMethod yX10_isWorld) ∈ TG := tg_5 (i := 45) rfl rfl
theorem tw_5_46 : (Cond.code yX10_isWorld cX10_isWorld 5 (some FieldType.boolean)) ∈ TG := tg_5 (i := 46) rfl rfl
theorem tw_5_47 : (Cond.methodLink "WitnessWallModel" 258 yX10_isWrong) ∈ TG := tg_5 (i := 47) rfl rfl
theorem tw_5_49 : (Cond.instanceMethod yX10_isWrong) ∈ TG := tg_5 (i := 49) rfl rfl
theorem tw_5_50 : (Cond.code yX10_isWrong cX10_isWrong 5 (some FieldType.boolean)) ∈ TG := tg_5 (i := 50) rfl rfl
theorem tw_5_51 : (Cond.methodLink "WitnessWallLaw" 89 yX10_odds) ∈ TG := tg_5 (i := 51) rfl rfl
theorem tw_5_52 : (Cond.instanceMethod yX10_odds) ∈ TG := tg_5 (i := 52) rfl rfl
theorem tw_5_53 : (Cond.selects "WitnessWallModel" yX10_odds yX10_odds) ∈ TG := tg_5 (i := 53) rfl rfl
theorem tw_5_54 : (Cond.code yX10_odds cX10_odds 5 (some FieldType.int)) ∈ TG := tg_5 (i := 54) rfl rfl
theorem tw_5_55 : (Cond.methodLink "WitnessWallModel" 270 yX10_oddsNow) ∈ TG := tg_5 (i := 55) rfl rfl
theorem tw_5_57 : (Cond.instanceMethod yX10_oddsNow) ∈ TG := tg_5 (i := 57) rfl rfl
theorem tw_5_58 : (Cond.code yX10_oddsNow cX10_oddsNow 8 (some FieldType.int)) ∈ TG := tg_5 (i := 58) rfl rfl
theorem tw_5_59 : (Cond.methodLink "WitnessWallModel" 267 yX10_divisor) ∈ TG := tg_5 (i := 59) rfl rfl
theorem tw_5_60 : (Cond.static yX10_divisor) ∈ TG := tg_5 (i := 60) rfl rfl
theorem tw_5_61 : (Cond.code yX10_divisor cX10_divisor 5 (some FieldType.int)) ∈ TG := tg_5 (i := 61) rfl rfl
theorem tw_5_62 : (Cond.methodLink "WitnessWallLaw" 94 yX10_see) ∈ TG := tg_5 (i := 62) rfl rfl
theorem tw_5_63 : (Cond.instanceMethod yX10_see) ∈ TG := tg_5 (i := 63) rfl rfl
theorem tw_5_64 : (Cond.selects "WitnessWallModel" yX10_see yX10_see) ∈ TG := tg_5 (i := 64) rfl rfl
theorem tw_5_65 : (Cond.code yX10_see cX10_see 4 (some FieldType.int)) ∈ TG := tg_5 (i := 65) rfl rfl
theorem tw_5_66 : (Cond.methodLink "WitnessWallLaw" 98 yX10_forget) ∈ TG := tg_5 (i := 66) rfl rfl
theorem tw_5_67 : (Cond.instanceMethod yX10_forget) ∈ TG := tg_5 (i := 67) rfl rfl
theorem tw_5_68 : (Cond.selects "WitnessWallModel" yX10_forget yX10_forget) ∈ TG := tg_5 (i := 68) rfl rfl
theorem tw_5_69 : (Cond.code yX10_forget cX10_forget 2 (some FieldType.int)) ∈ TG := tg_5 (i := 69) rfl rfl
theorem tw_5_70 : (Cond.methodLink "WitnessWallLaw" 102 yX10_drawn) ∈ TG := tg_5 (i := 70) rfl rfl
theorem tw_5_71 : (Cond.instanceMethod yX10_drawn) ∈ TG := tg_5 (i := 71) rfl rfl
theorem tw_5_72 : (Cond.selects "WitnessWallModel" yX10_drawn yX10_drawn) ∈ TG := tg_5 (i := 72) rfl rfl
theorem tw_5_73 : (Cond.code yX10_drawn cX10_drawn 4 (some FieldType.int)) ∈ TG := tg_5 (i := 73) rfl rfl
theorem tw_5_74 : (Cond.methodLink "WitnessWallModel" 292 yX10_drawnNow) ∈ TG := tg_5 (i := 74) rfl rfl
theorem tw_5_76 : (Cond.instanceMethod yX10_drawnNow) ∈ TG := tg_5 (i := 76) rfl rfl
theorem tw_5_77 : (Cond.code yX10_drawnNow cX10_drawnNow 8 (some FieldType.int)) ∈ TG := tg_5 (i := 77) rfl rfl
theorem tw_5_78 : (Cond.methodLink "WitnessWallModel" 289 yX10_draw) ∈ TG := tg_5 (i := 78) rfl rfl
theorem tw_5_80 : (Cond.instanceMethod yX10_draw) ∈ TG := tg_5 (i := 80) rfl rfl
theorem tw_5_81 : (Cond.code yX10_draw cX10_draw 2 (some FieldType.int)) ∈ TG := tg_5 (i := 81) rfl rfl
theorem tw_5_82 : (Cond.constantLong "WitnessWallModel" 277 (1103515245)) ∈ TG := tg_5 (i := 82) rfl rfl
theorem tw_5_83 : (Cond.constantLong "WitnessWallModel" 283 (12345)) ∈ TG := tg_5 (i := 83) rfl rfl
theorem tw_5_84 : (Cond.constantLong "WitnessWallModel" 285 (2147483647)) ∈ TG := tg_5 (i := 84) rfl rfl
theorem tw_5_85 : (Cond.constantLong "WitnessWallModel" 287 (65536)) ∈ TG := tg_5 (i := 85) rfl rfl
theorem tw_5_86 : (Cond.methodLink "WitnessWallLaw" 106 yX10_image) ∈ TG := tg_5 (i := 86) rfl rfl
theorem tw_5_87 : (Cond.instanceMethod yX10_image) ∈ TG := tg_5 (i := 87) rfl rfl
theorem tw_5_88 : (Cond.selects "WitnessWallModel" yX10_image yX10_image) ∈ TG := tg_5 (i := 88) rfl rfl
theorem tw_5_89 : (Cond.code yX10_image cX10_image 2 (some FieldType.int)) ∈ TG := tg_5 (i := 89) rfl rfl
theorem tw_5_90 : (Cond.methodLink "WitnessWallLaw" 110 yX10_restore) ∈ TG := tg_5 (i := 90) rfl rfl
theorem tw_5_91 : (Cond.instanceMethod yX10_restore) ∈ TG := tg_5 (i := 91) rfl rfl
theorem tw_5_92 : (Cond.selects "WitnessWallModel" yX10_restore yX10_restore) ∈ TG := tg_5 (i := 92) rfl rfl
theorem tw_5_93 : (Cond.code yX10_restore cX10_restore 2 (some FieldType.int)) ∈ TG := tg_5 (i := 93) rfl rfl
theorem tw_5_94 : (Cond.methodLink "WitnessWallLaw" 114 yX10_count) ∈ TG := tg_5 (i := 94) rfl rfl
theorem tw_5_95 : (Cond.instanceMethod yX10_count) ∈ TG := tg_5 (i := 95) rfl rfl
theorem tw_5_96 : (Cond.selects "WitnessWallModel" yX10_count yX10_count) ∈ TG := tg_5 (i := 96) rfl rfl
theorem tw_5_97 : (Cond.code yX10_count cX10_count 2 (some FieldType.int)) ∈ TG := tg_5 (i := 97) rfl rfl
theorem tw_5_98 : (Cond.methodLink "WitnessWallModel" 314 yX10_howMany) ∈ TG := tg_5 (i := 98) rfl rfl
theorem tw_5_100 : (Cond.instanceMethod yX10_howMany) ∈ TG := tg_5 (i := 100) rfl rfl
theorem tw_5_101 : (Cond.code yX10_howMany cX10_howMany 2 (some FieldType.int)) ∈ TG := tg_5 (i := 101) rfl rfl
theorem tw_5_102 : (Cond.methodLink "WitnessWallModel" 311 yX10_sightsOfAll) ∈ TG := tg_5 (i := 102) rfl rfl
theorem tw_5_104 : (Cond.instanceMethod yX10_sightsOfAll) ∈ TG := tg_5 (i := 104) rfl rfl
theorem tw_5_105 : (Cond.code yX10_sightsOfAll cX10_sightsOfAll 4 (some FieldType.int)) ∈ TG := tg_5 (i := 105) rfl rfl
theorem tw_5_106 : (Cond.methodLink "WitnessWallLaw" 119 yX10_digest) ∈ TG := tg_5 (i := 106) rfl rfl
theorem tw_5_107 : (Cond.instanceMethod yX10_digest) ∈ TG := tg_5 (i := 107) rfl rfl
theorem tw_5_108 : (Cond.selects "WitnessWallModel" yX10_digest yX10_digest) ∈ TG := tg_5 (i := 108) rfl rfl
theorem tw_5_109 : (Cond.code yX10_digest cX10_digest 3 (some FieldType.long)) ∈ TG := tg_5 (i := 109) rfl rfl
theorem tw_5_110 : (Cond.constantLong "WitnessWallModel" 326 (1361)) ∈ TG := tg_5 (i := 110) rfl rfl
theorem tw_5_111 : (Cond.methodLink "WitnessWallModel" 322 yX10_mix) ∈ TG := tg_5 (i := 111) rfl rfl
theorem tw_5_113 : (Cond.instanceMethod yX10_mix) ∈ TG := tg_5 (i := 113) rfl rfl
theorem tw_5_114 : (Cond.code yX10_mix cX10_mix 3 none) ∈ TG := tg_5 (i := 114) rfl rfl
theorem tw_5_115 : (Cond.constantLong "WitnessWallModel" 317 (31)) ∈ TG := tg_5 (i := 115) rfl rfl
theorem tw_5_116 : (Cond.methodLink "WitnessWallModel" 328 yX10_mixWall) ∈ TG := tg_5 (i := 116) rfl rfl
theorem tw_5_118 : (Cond.instanceMethod yX10_mixWall) ∈ TG := tg_5 (i := 118) rfl rfl
theorem tw_5_119 : (Cond.code yX10_mixWall cX10_mixWall 2 none) ∈ TG := tg_5 (i := 119) rfl rfl
theorem tw_5_120 : (Cond.arrayClass FieldType.char) ∈ TG := tg_5 (i := 120) rfl rfl
theorem tp {y : MethodName} {i n : Nat} (h : lw_privs[i]? = some (y, n)) (g : goodWord (Cond.selects y.cls y y) = true) : Cond.selects y.cls y y ∈ TG := tg (List.mem_append_left _ (List.mem_map.mpr ⟨(y, n), List.mem_of_getElem? h, rfl⟩)) g
theorem tp_0 : (Cond.selects "WitnessWall" yX9_isWitness yX9_isWitness) ∈ TG := tp (y := yX9_isWitness) (i := 0) (n := 9) rfl rfl
theorem tp_1 : (Cond.selects "WitnessWall" yX9_hasWall yX9_hasWall) ∈ TG := tp (y := yX9_hasWall) (i := 1) (n := 9) rfl rfl
theorem tp_2 : (Cond.selects "WitnessWallModel" yX10_read yX10_read) ∈ TG := tp (y := yX10_read) (i := 2) (n := 48) rfl rfl
theorem tp_3 : (Cond.selects "WitnessWallModel" yX10_readWitnesses yX10_readWitnesses) ∈ TG := tp (y := yX10_readWitnesses) (i := 3) (n := 48) rfl rfl
theorem tp_4 : (Cond.selects "WitnessWallModel" yX10_at yX10_at) ∈ TG := tp (y := yX10_at) (i := 4) (n := 48) rfl rfl
theorem tp_5 : (Cond.selects "WitnessWallModel" yX10_readSights yX10_readSights) ∈ TG := tp (y := yX10_readSights) (i := 5) (n := 48) rfl rfl
theorem tp_6 : (Cond.selects "WitnessWallModel" yX10_isThing yX10_isThing) ∈ TG := tp (y := yX10_isThing) (i := 6) (n := 48) rfl rfl
theorem tp_7 : (Cond.selects "WitnessWallModel" yX10_isDigit yX10_isDigit) ∈ TG := tp (y := yX10_isDigit) (i := 7) (n := 48) rfl rfl
theorem tp_8 : (Cond.selects "WitnessWallModel" yX10_sightAt yX10_sightAt) ∈ TG := tp (y := yX10_sightAt) (i := 8) (n := 48) rfl rfl
theorem tp_9 : (Cond.selects "WitnessWallModel" yX10_isTold yX10_isTold) ∈ TG := tp (y := yX10_isTold) (i := 9) (n := 48) rfl rfl
theorem tp_10 : (Cond.selects "WitnessWallModel" yX10_readCases yX10_readCases) ∈ TG := tp (y := yX10_readCases) (i := 10) (n := 48) rfl rfl
theorem tp_11 : (Cond.selects "WitnessWallModel" yX10_isWitness yX10_isWitness) ∈ TG := tp (y := yX10_isWitness) (i := 11) (n := 48) rfl rfl
theorem tp_12 : (Cond.selects "WitnessWallModel" yX10_witnessNow yX10_witnessNow) ∈ TG := tp (y := yX10_witnessNow) (i := 12) (n := 48) rfl rfl
theorem tp_13 : (Cond.selects "WitnessWallModel" yX10_sortsOf yX10_sortsOf) ∈ TG := tp (y := yX10_sortsOf) (i := 13) (n := 48) rfl rfl
theorem tp_14 : (Cond.selects "WitnessWallModel" yX10_askOf yX10_askOf) ∈ TG := tp (y := yX10_askOf) (i := 14) (n := 48) rfl rfl
theorem tp_15 : (Cond.selects "WitnessWallModel" yX10_clashesOf yX10_clashesOf) ∈ TG := tp (y := yX10_clashesOf) (i := 15) (n := 48) rfl rfl
theorem tp_16 : (Cond.selects "WitnessWallModel" yX10_clashesOfTwo yX10_clashesOfTwo) ∈ TG := tp (y := yX10_clashesOfTwo) (i := 16) (n := 48) rfl rfl
theorem tp_17 : (Cond.selects "WitnessWallModel" yX10_hasThing yX10_hasThing) ∈ TG := tp (y := yX10_hasThing) (i := 17) (n := 48) rfl rfl
theorem tp_18 : (Cond.selects "WitnessWallModel" yX10_tellsNow yX10_tellsNow) ∈ TG := tp (y := yX10_tellsNow) (i := 18) (n := 48) rfl rfl
theorem tp_19 : (Cond.selects "WitnessWallModel" yX10_everybody yX10_everybody) ∈ TG := tp (y := yX10_everybody) (i := 19) (n := 48) rfl rfl
theorem tp_20 : (Cond.selects "WitnessWallModel" yX10_saidBy yX10_saidBy) ∈ TG := tp (y := yX10_saidBy) (i := 20) (n := 48) rfl rfl
theorem tp_21 : (Cond.selects "WitnessWallModel" yX10_has yX10_has) ∈ TG := tp (y := yX10_has) (i := 21) (n := 48) rfl rfl
theorem tp_22 : (Cond.selects "WitnessWallModel" yX10_showNow yX10_showNow) ∈ TG := tp (y := yX10_showNow) (i := 22) (n := 48) rfl rfl
theorem tp_23 : (Cond.selects "WitnessWallModel" yX10_termNow yX10_termNow) ∈ TG := tp (y := yX10_termNow) (i := 23) (n := 48) rfl rfl
theorem tp_24 : (Cond.selects "WitnessWallModel" yX10_layTerm yX10_layTerm) ∈ TG := tp (y := yX10_layTerm) (i := 24) (n := 48) rfl rfl
theorem tp_25 : (Cond.selects "WitnessWallModel" yX10_lay yX10_lay) ∈ TG := tp (y := yX10_lay) (i := 25) (n := 48) rfl rfl
theorem tp_26 : (Cond.selects "WitnessWallModel" yX10_layBack yX10_layBack) ∈ TG := tp (y := yX10_layBack) (i := 26) (n := 48) rfl rfl
theorem tp_27 : (Cond.selects "WitnessWallModel" yX10_layMost yX10_layMost) ∈ TG := tp (y := yX10_layMost) (i := 27) (n := 48) rfl rfl
theorem tp_28 : (Cond.selects "WitnessWallModel" yX10_orderNow yX10_orderNow) ∈ TG := tp (y := yX10_orderNow) (i := 28) (n := 48) rfl rfl
theorem tp_29 : (Cond.selects "WitnessWallModel" yX10_keepSet yX10_keepSet) ∈ TG := tp (y := yX10_keepSet) (i := 29) (n := 48) rfl rfl
theorem tp_30 : (Cond.selects "WitnessWallModel" yX10_isSaidSo yX10_isSaidSo) ∈ TG := tp (y := yX10_isSaidSo) (i := 30) (n := 48) rfl rfl
theorem tp_31 : (Cond.selects "WitnessWallModel" yX10_peaceSet yX10_peaceSet) ∈ TG := tp (y := yX10_peaceSet) (i := 31) (n := 48) rfl rfl
theorem tp_32 : (Cond.selects "WitnessWallModel" yX10_clashesAmong yX10_clashesAmong) ∈ TG := tp (y := yX10_clashesAmong) (i := 32) (n := 48) rfl rfl
theorem tp_33 : (Cond.selects "WitnessWallModel" yX10_worldsNow yX10_worldsNow) ∈ TG := tp (y := yX10_worldsNow) (i := 33) (n := 48) rfl rfl
theorem tp_34 : (Cond.selects "WitnessWallModel" yX10_isWorld yX10_isWorld) ∈ TG := tp (y := yX10_isWorld) (i := 34) (n := 48) rfl rfl
theorem tp_35 : (Cond.selects "WitnessWallModel" yX10_isWrong yX10_isWrong) ∈ TG := tp (y := yX10_isWrong) (i := 35) (n := 48) rfl rfl
theorem tp_36 : (Cond.selects "WitnessWallModel" yX10_oddsNow yX10_oddsNow) ∈ TG := tp (y := yX10_oddsNow) (i := 36) (n := 48) rfl rfl
theorem tp_37 : (Cond.selects "WitnessWallModel" yX10_drawnNow yX10_drawnNow) ∈ TG := tp (y := yX10_drawnNow) (i := 37) (n := 48) rfl rfl
theorem tp_38 : (Cond.selects "WitnessWallModel" yX10_draw yX10_draw) ∈ TG := tp (y := yX10_draw) (i := 38) (n := 48) rfl rfl
theorem tp_39 : (Cond.selects "WitnessWallModel" yX10_howMany yX10_howMany) ∈ TG := tp (y := yX10_howMany) (i := 39) (n := 48) rfl rfl
theorem tp_40 : (Cond.selects "WitnessWallModel" yX10_sightsOfAll yX10_sightsOfAll) ∈ TG := tp (y := yX10_sightsOfAll) (i := 40) (n := 48) rfl rfl
theorem tp_41 : (Cond.selects "WitnessWallModel" yX10_mix yX10_mix) ∈ TG := tp (y := yX10_mix) (i := 41) (n := 48) rfl rfl
theorem tp_42 : (Cond.selects "WitnessWallModel" yX10_mixWall yX10_mixWall) ∈ TG := tp (y := yX10_mixWall) (i := 42) (n := 48) rfl rfl
theorem layX0 : ∀ k, k < 3 → u_lay RX0 TX0 k ∈ TG := by
  intro k hk
  match k, hk with
  | 0, _ => exact tw_1_85
  | 1, _ => exact tw_1_87
  | 2, _ => exact tw_1_89
  | k + 3, hk => exact absurd hk (by omega)
theorem inX0 : ∀ w ∈ u_ws RX0 TX0 3, w ∈ TG := by
  intro w hw
  obtain ⟨k, hk, rfl⟩ := List.mem_map.mp hw
  exact layX0 k (List.mem_range.mp hk)
theorem layX1 : ∀ k, k < 3 → u_lay RX1 TX1 k ∈ TG := by
  intro k hk
  match k, hk with
  | 0, _ => exact tw_1_64
  | 1, _ => exact tw_1_66
  | 2, _ => exact tw_1_68
  | k + 3, hk => exact absurd hk (by omega)
theorem inX1 : ∀ w ∈ u_ws RX1 TX1 3, w ∈ TG := by
  intro w hw
  obtain ⟨k, hk, rfl⟩ := List.mem_map.mp hw
  exact layX1 k (List.mem_range.mp hk)
theorem layX2 : ∀ k, k < 6 → u_lay RX2 TX2 k ∈ TG := by
  intro k hk
  match k, hk with
  | 0, _ => exact tw_1_102
  | 1, _ => exact tw_1_104
  | 2, _ => exact tw_1_106
  | 3, _ => exact tw_1_108
  | 4, _ => exact tw_1_110
  | 5, _ => exact tw_1_112
  | k + 6, hk => exact absurd hk (by omega)
theorem inX2 : ∀ w ∈ u_ws RX2 TX2 6, w ∈ TG := by
  intro w hw
  obtain ⟨k, hk, rfl⟩ := List.mem_map.mp hw
  exact layX2 k (List.mem_range.mp hk)
theorem layX3 : ∀ k, k < 4 → u_lay RX3 TX3 k ∈ TG := by
  intro k hk
  match k, hk with
  | 0, _ => exact tw_1_172
  | 1, _ => exact tw_1_174
  | 2, _ => exact tw_1_176
  | 3, _ => exact tw_1_178
  | k + 4, hk => exact absurd hk (by omega)
theorem inX3 : ∀ w ∈ u_ws RX3 TX3 4, w ∈ TG := by
  intro w hw
  obtain ⟨k, hk, rfl⟩ := List.mem_map.mp hw
  exact layX3 k (List.mem_range.mp hk)
theorem layX4 : ∀ k, k < 3 → u_lay RX4 TX4 k ∈ TG := by
  intro k hk
  match k, hk with
  | 0, _ => exact tw_1_157
  | 1, _ => exact tw_1_159
  | 2, _ => exact tw_1_161
  | k + 3, hk => exact absurd hk (by omega)
theorem inX4 : ∀ w ∈ u_ws RX4 TX4 3, w ∈ TG := by
  intro w hw
  obtain ⟨k, hk, rfl⟩ := List.mem_map.mp hw
  exact layX4 k (List.mem_range.mp hk)
theorem layX5 : ∀ k, k < 4 → u_lay RX5 TX5 k ∈ TG := by
  intro k hk
  match k, hk with
  | 0, _ => exact tw_1_137
  | 1, _ => exact tw_1_139
  | 2, _ => exact tw_1_141
  | 3, _ => exact tw_1_143
  | k + 4, hk => exact absurd hk (by omega)
theorem inX5 : ∀ w ∈ u_ws RX5 TX5 4, w ∈ TG := by
  intro w hw
  obtain ⟨k, hk, rfl⟩ := List.mem_map.mp hw
  exact layX5 k (List.mem_range.mp hk)
theorem layX6 : ∀ k, k < 2 → u_lay RX6 TX6 k ∈ TG := by
  intro k hk
  match k, hk with
  | 0, _ => exact tw_1_191
  | 1, _ => exact tw_1_193
  | k + 2, hk => exact absurd hk (by omega)
theorem inX6 : ∀ w ∈ u_ws RX6 TX6 2, w ∈ TG := by
  intro w hw
  obtain ⟨k, hk, rfl⟩ := List.mem_map.mp hw
  exact layX6 k (List.mem_range.mp hk)
theorem layX7 : ∀ k, k < 3 → u_lay RX7 TX7 k ∈ TG := by
  intro k hk
  match k, hk with
  | 0, _ => exact tw_1_47
  | 1, _ => exact tw_1_49
  | 2, _ => exact tw_1_51
  | k + 3, hk => exact absurd hk (by omega)
theorem inX7 : ∀ w ∈ u_ws RX7 TX7 3, w ∈ TG := by
  intro w hw
  obtain ⟨k, hk, rfl⟩ := List.mem_map.mp hw
  exact layX7 k (List.mem_range.mp hk)
theorem layX8 : ∀ k, k < 2 → u_lay RX8 TX8 k ∈ TG := by
  intro k hk
  match k, hk with
  | 0, _ => exact tw_1_204
  | 1, _ => exact tw_1_206
  | k + 2, hk => exact absurd hk (by omega)
theorem inX8 : ∀ w ∈ u_ws RX8 TX8 2, w ∈ TG := by
  intro w hw
  obtain ⟨k, hk, rfl⟩ := List.mem_map.mp hw
  exact layX8 k (List.mem_range.mp hk)
theorem layX9 : ∀ k, k < 9 → u_lay RX9 TX9 k ∈ TG := by
  intro k hk
  match k, hk with
  | 0, _ => exact tw_1_218
  | 1, _ => exact tw_1_220
  | 2, _ => exact tw_1_222
  | 3, _ => exact tw_1_224
  | 4, _ => exact tw_1_226
  | 5, _ => exact tw_1_228
  | 6, _ => exact tw_1_230
  | 7, _ => exact tw_1_232
  | 8, _ => exact tw_1_234
  | k + 9, hk => exact absurd hk (by omega)
theorem inX9 : ∀ w ∈ u_ws RX9 TX9 9, w ∈ TG := by
  intro w hw
  obtain ⟨k, hk, rfl⟩ := List.mem_map.mp hw
  exact layX9 k (List.mem_range.mp hk)
theorem layX10 : ∀ k, k < 48 → u_lay RX10 TX10 k ∈ TG := by
  intro k hk
  match k, hk with
  | 0, _ => exact tw_3_204
  | 1, _ => exact tw_3_206
  | 2, _ => exact tw_3_208
  | 3, _ => exact tw_3_210
  | 4, _ => exact tw_3_212
  | 5, _ => exact tw_3_214
  | 6, _ => exact tw_3_216
  | 7, _ => exact tw_3_218
  | 8, _ => exact tw_3_220
  | 9, _ => exact tw_3_222
  | 10, _ => exact tw_3_224
  | 11, _ => exact tw_3_226
  | 12, _ => exact tw_3_228
  | 13, _ => exact tw_3_230
  | 14, _ => exact tw_3_232
  | 15, _ => exact tw_3_234
  | 16, _ => exact tw_3_236
  | 17, _ => exact tw_3_238
  | 18, _ => exact tw_4_0
  | 19, _ => exact tw_4_2
  | 20, _ => exact tw_4_4
  | 21, _ => exact tw_4_6
  | 22, _ => exact tw_4_8
  | 23, _ => exact tw_4_10
  | 24, _ => exact tw_4_12
  | 25, _ => exact tw_4_14
  | 26, _ => exact tw_4_16
  | 27, _ => exact tw_4_18
  | 28, _ => exact tw_4_20
  | 29, _ => exact tw_4_22
  | 30, _ => exact tw_4_24
  | 31, _ => exact tw_4_26
  | 32, _ => exact tw_4_28
  | 33, _ => exact tw_4_30
  | 34, _ => exact tw_4_32
  | 35, _ => exact tw_4_34
  | 36, _ => exact tw_4_36
  | 37, _ => exact tw_4_38
  | 38, _ => exact tw_4_40
  | 39, _ => exact tw_4_42
  | 40, _ => exact tw_4_44
  | 41, _ => exact tw_4_46
  | 42, _ => exact tw_4_48
  | 43, _ => exact tw_4_50
  | 44, _ => exact tw_4_52
  | 45, _ => exact tw_4_54
  | 46, _ => exact tw_4_56
  | 47, _ => exact tw_4_58
  | k + 48, hk => exact absurd hk (by omega)
theorem inX10 : ∀ w ∈ u_ws RX10 TX10 48, w ∈ TG := by
  intro w hw
  obtain ⟨k, hk, rfl⟩ := List.mem_map.mp hw
  exact layX10 k (List.mem_range.mp hk)
end
section
/-! THE BASE: worlds whose cells are numbered; pure values of a run by 'Option'; rows of the walk over them -/
-- ===== pure combinators: what a method computes, as a value of Option =====
def bv {α β : Type} (e : α) (f : α → Option β) : Option β := f e
def bo {α β : Type} (o : Option α) (f : α → Option β) : Option β := o.bind f
def gd {β : Type} (b : Bool) (k : Option β) : Option β := if b = true then k else none
def inb (i : Int32) (n : Nat) : Bool := decide (0 ≤ i.toInt) && decide (i.toInt < n)
def nz (x : Int32) : Bool := decide (¬ x = 0)
def nzL (x : Int64) : Bool := decide (¬ x = 0)
def lp {S X : Type} (body : S → Option (S ⊕ X)) : Nat → S → Option X
  | 0, _ => none
  | n + 1, s => (body s).bind (fun r => Sum.elim (fun s' => lp body n s') (fun x => some x) r)
theorem st_bv {α β : Type} {e : α} {f : α → Option β} {r : β} (h : bv e f = some r) : ∃ x, x = e ∧ f x = some r := ⟨e, rfl, h⟩
theorem st_bo {α β : Type} {o : Option α} {f : α → Option β} {r : β} (h : bo o f = some r) : ∃ x, o = some x ∧ f x = some r := by
  unfold bo at h
  cases o with
  | none => cases h
  | some x => exact ⟨x, rfl, h⟩
theorem st_gd {β : Type} {b : Bool} {k : Option β} {r : β} (h : gd b k = some r) : b = true ∧ k = some r := by
  unfold gd at h
  by_cases hb : b = true
  · rw [if_pos hb] at h; exact ⟨hb, h⟩
  · rw [if_neg hb] at h; cases h
theorem st_t {β : Type} {c : Prop} {i : Decidable c} {a b : Option β} {r : β} (h : (@ite _ c i a b) = some r) (hc : c) : a = some r := by rw [if_pos hc] at h; exact h
theorem st_f {β : Type} {c : Prop} {i : Decidable c} {a b : Option β} {r : β} (h : (@ite _ c i a b) = some r) (hc : ¬ c) : b = some r := by rw [if_neg hc] at h; exact h
theorem st_in {i : Int32} {n : Nat} (h : inb i n = true) : vp_in i n := by
  rw [vp_in_iff]
  simpa [inb] using h
theorem st_nz {x : Int32} (h : nz x = true) : ¬ x = 0 := by simpa [nz] using h
theorem st_nzL {x : Int64} (h : nzL x = true) : ¬ x = 0 := by simpa [nzL] using h
theorem st_lt {i : Int32} {n : Nat} (h : inb i n = true) : i.toNatClampNeg < n := Nat.not_le.mp fun q => st_in h (Or.inr q)
theorem lp_walk {S X : Type} {body : S → Option (S ⊕ X)} (At : S → Prop) (Ex : X → Prop) (hs : ∀ (s : S) (r : S ⊕ X), body s = some r → Sum.elim At Ex r → At s) : ∀ (n : Nat) (s : S) (x : X), lp body n s = some x → Ex x → At s
  | 0, _, _, h, _ => by cases h
  | n + 1, s, x, h, hx => by
    rw [lp] at h
    cases hb : body s with
    | none => rw [hb] at h; cases h
    | some r =>
      rw [hb] at h
      cases r with
      | inl s' => exact hs s (.inl s') hb (lp_walk At Ex hs n s' x h hx)
      | inr y =>
        have e : y = x := Option.some.inj h
        subst e
        exact hs s (.inr y) hb hx
-- ===== worlds of numbered cells =====
def wl (n : Nat) (ad : Nat → Nat) (E : Nat → va_E) : va_W := (List.range n).map (fun k => (ad k, E k))
theorem wl_at {n : Nat} {ad : Nat → Nat} {E : Nat → va_E} {k : Nat} (h : k < n) : (wl n ad E)[k]? = some (ad k, E k) := by simp [wl, h]
theorem wl_len {n : Nat} {ad : Nat → Nat} {E : Nat → va_E} : (wl n ad E).length = n := by simp [wl]
theorem wl_get {n : Nat} {ad : Nat → Nat} {E : Nat → va_E} {k : Nat} {q : Nat × va_E} (h : (wl n ad E)[k]? = some q) : k < n ∧ q = (ad k, E k) := by
  have hk : k < n := by
    have h1 := (List.getElem?_eq_some_iff.mp h).1
    rw [wl_len] at h1
    exact h1
  rw [wl_at hk] at h
  exact ⟨hk, (Option.some.inj h).symm⟩
theorem wl_set {n : Nat} {ad : Nat → Nat} {E E' : Nat → va_E} {k : Nat} {e : va_E} (he : E' k = e) (ho : ∀ j, j ≠ k → E' j = E j) : (wl n ad E).set k (ad k, e) = wl n ad E' := by
  apply List.ext_getElem?
  intro i
  rw [List.getElem?_set]
  by_cases hi : k = i
  · subst hi
    by_cases hn : k < n
    · rw [if_pos rfl, if_pos (by rw [wl_len]; exact hn), wl_at hn, he]
    · rw [if_pos rfl, if_neg (by rw [wl_len]; exact hn)]
      rw [List.getElem?_eq_none (by rw [wl_len]; omega)]
  · rw [if_neg hi]
    by_cases hn : i < n
    · rw [wl_at hn, wl_at hn, ho i (fun h => hi h.symm)]
    · rw [List.getElem?_eq_none (by rw [wl_len]; omega), List.getElem?_eq_none (by rw [wl_len]; omega)]
def inj (n : Nat) (ad : Nat → Nat) : Prop := ∀ i j, i < n → j < n → ad i = ad j → i = j
def AD (n : Nat) (ad : Nat → Nat) (sz : Nat) : Nat → Prop := fun q => (∃ k, k < n ∧ q = ad k) ∨ sz ≤ q
theorem wl_D {n : Nat} {ad : Nat → Nat} {E : Nat → va_E} {sz : Nat} (h : inj n ad) : va_D (AD n ad sz) (wl n ad E) := by
  refine ⟨fun i j x y hi hj hxy => ?_, fun k q hk => ?_⟩
  · obtain ⟨h1, rfl⟩ := wl_get hi
    obtain ⟨h2, rfl⟩ := wl_get hj
    exact h i j h1 h2 hxy
  · obtain ⟨h1, rfl⟩ := wl_get hk
    exact Or.inl ⟨k, h1, rfl⟩
theorem AD_le {n : Nat} {ad : Nat → Nat} {a b : Nat} (h : a ≤ b) : ∀ q, AD n ad b q → AD n ad a q := by
  intro q hq
  rcases hq with hq | hq
  · exact Or.inl hq
  · exact Or.inr (Nat.le_trans h hq)
-- ===== a method's start and end over such a world; K: what the tables say; Z: what the statics hold =====
def PG {St : Type} (n : Nat) (ad : Nat → Nat) (E : St → Nat → va_E) (D : va_G) (K : State → Prop) (Z : (Nat → Prop) → State → Heap → Prop) (av : List Value) (σ : St) (sz : Nat) : Array Value → State → Prop :=
  va_Pc av (fun U => U.heap.size = sz ∧ va_P D vwCl (wl n ad (E σ)) U.heap ∧ K U ∧ Z (AD n ad sz) U U.heap)
def QGi {St : Type} (n : Nat) (ad : Nat → Nat) (E : St → Nat → va_E) (D : va_G) (r : Int32) (σ : St) (sz : Nat) : Array Value → State → Outcome → State → Prop :=
  va_Qi (fun r' (_ : Unit) => r' = r) (fun _ t => va_P D vwCl (wl n ad (E σ)) t.heap) (AD n ad sz)
def QGl {St : Type} (n : Nat) (ad : Nat → Nat) (E : St → Nat → va_E) (D : va_G) (r : Int64) (σ : St) (sz : Nat) : Array Value → State → Outcome → State → Prop :=
  va_Ql (fun r' (_ : Unit) => r' = r) (fun _ t => va_P D vwCl (wl n ad (E σ)) t.heap) (AD n ad sz)
def QGv {St : Type} (n : Nat) (ad : Nat → Nat) (E : St → Nat → va_E) (D : va_G) (σ : St) (sz : Nat) : Array Value → State → Outcome → State → Prop :=
  va_Qv (fun (_ : Unit) => True) (fun _ t => va_P D vwCl (wl n ad (E σ)) t.heap) (AD n ad sz)
def QGr {St : Type} (n : Nat) (ad : Nat → Nat) (E : St → Nat → va_E) (D : va_G) (r : Nat) (σ : St) (sz : Nat) : Array Value → State → Outcome → State → Prop :=
  va_Qr (fun (_ : Unit) => True) (fun _ a t => a = ad r ∧ va_P D vwCl (wl n ad (E σ)) t.heap) (AD n ad sz)
/-- the tables' part is the same in every state of a run; the statics' part too, while only cells of A change -/
def Kst (K : State → Prop) : Prop := (∀ s U : State, s.WarmedH U.vm → K s → K U) ∧ ∀ u U : State, u.vm = U.vm → K u → K U
def Zst (Z : (Nat → Prop) → State → Heap → Prop) : Prop := (∀ (A : Nat → Prop) (u U : State) (H : Heap), u.vm.Alike U.vm → Z A u H → Z A U H) ∧ (∀ (A B : Nat → Prop) (U : State) (H : Heap), (∀ q, B q → A q) → Z A U H → Z B U H) ∧ ∀ (A : Nat → Prop) (U : State) (H H1 : Heap), (∀ q : Nat, q < H.size → ¬ A q → H1[q]? = H[q]?) → Z A U H → Z A U H1
section WB
variable {p : Program} {l : Launch} {e : Env} {R : Room} {s : State} {m : MethodId} {args : Array Value} {below : List Frame} {meth : Method} {c : Code} {H : Heap} {locs : List Loc} {Q : State → Prop}
variable {cc : ByteArray} {pc : Nat} {ls : Array Slot} {rest : List Value} {D : va_G} {n : Nat} {ad : Nat → Nat} {St : Type} {E : St → Nat → va_E} {K : State → Prop} {Z : (Nat → Prop) → State → Heap → Prop} {σ σ' : St}
theorem PG_blind (hK : Kst K) (hZ : Zst Z) {av : List Value} {sz : Nat} : FrameBlind (PG n ad E D K Z av σ sz) := by
  intro a U g mk q
  obtain ⟨q0, q1, q2, q3, q4⟩ := q
  exact ⟨q0, q1, q2, hK.2 U (U.calling g mk a) rfl q3, hZ.1 _ U (U.calling g mk a) _ (Vm.Alike.refl U.vm) q4⟩
theorem PG_pre (hK : Kst K) (hZ : Zst Z) {av : List Value} (hKs : K s) (hZs : Z (AD n ad s.heap.size) s s.heap) (hP : va_P D vwCl (wl n ad (E σ)) H) (hS : va_S (AD n ad s.heap.size) s.heap H locs) : ∀ U : State, U.heap = H → s.WarmedH U.vm → PG n ad E D K Z av σ H.size av.toArray U := by
  intro U hU hW
  refine ⟨rfl, by rw [hU], by rw [hU]; exact hP, hK.1 s U hW hKs, ?_⟩
  rw [hU]
  exact hZ.2.1 _ _ _ _ (AD_le hS.1) (hZ.1 _ s U _ hW.alike (hZ.2.2 _ _ _ _ hS.2.1 hZs))
theorem g_preV (hK : Kst K) (hZ : Zst Z) {As : List Value} {k ci : Nat} {q : vw_C} {fs : List Value} {tys : List (ClassId × FieldType)} (hKs : K s) (hZs : Z (AD n ad s.heap.size) s s.heap) (hP : va_P D vwCl (wl n ad (E σ)) H) (hS : va_S (AD n ad s.heap.size) s.heap H locs) (hvK : va_K D vwCl tys s) (hk : k < n) (he : E σ k = .inr (ci, fs)) (hc : vwCl[ci]? = some q) : PreV s H q.1 (ad k) (PG n ad E D K Z (.ref (ad k) :: As) σ H.size) As :=
  ⟨PG_blind hK hZ, va_recv hvK hP hc ((wl_at hk).trans (by rw [he])), PG_pre hK hZ hKs hZs hP hS⟩
theorem g_preS (hK : Kst K) (hZ : Zst Z) {As : List Value} (hKs : K s) (hZs : Z (AD n ad s.heap.size) s s.heap) (hP : va_P D vwCl (wl n ad (E σ)) H) (hS : va_S (AD n ad s.heap.size) s.heap H locs) : PreS s H (PG n ad E D K Z As σ H.size) As :=
  ⟨PG_blind hK hZ, PG_pre hK hZ hKs hZs hP hS⟩
theorem g_calli {st0 : List Value} {a : Array Value} {r : Int32} (hr : va_Run p l e R s m args below meth c H locs 0 0 0 0 (F0 m pc ls st0) rest (QGi n ad E D r σ' H.size a) (AD n ad H.size)) (hS : va_S (AD n ad s.heap.size) s.heap H locs)
    (kk : ∀ (H : Heap) (locs : List Loc), va_P D vwCl (wl n ad (E σ')) H → va_S (AD n ad s.heap.size) s.heap H locs → W p l e R s m args below meth c H locs 0 0 Q (F0 m (pc + 3) ls (.int r :: rest))) : W p l e R s m args below meth c H locs 0 0 Q (F0 m pc ls st0) := by
  refine va_calli hr hS (fun q _ h => AD_le hS.1 q h) (AD_le hS.1) (fun r1 u t H1 locs1 ht hvm hw hB hz hk hS1 => ?_)
  subst hw
  refine kk H1 locs1 ?_ hS1
  rw [← ht]
  exact hB
theorem g_calll {st0 : List Value} {a : Array Value} {r : Int64} (hr : va_Run p l e R s m args below meth c H locs 0 0 0 0 (F0 m pc ls st0) rest (QGl n ad E D r σ' H.size a) (AD n ad H.size)) (hS : va_S (AD n ad s.heap.size) s.heap H locs)
    (kk : ∀ (H : Heap) (locs : List Loc), va_P D vwCl (wl n ad (E σ')) H → va_S (AD n ad s.heap.size) s.heap H locs → W p l e R s m args below meth c H locs 0 0 Q (F0 m (pc + 3) ls (.long r :: rest))) : W p l e R s m args below meth c H locs 0 0 Q (F0 m pc ls st0) := by
  refine va_calll hr hS (fun q _ h => AD_le hS.1 q h) (AD_le hS.1) (fun r1 u t H1 locs1 ht hvm hw hB hz hk hS1 => ?_)
  subst hw
  refine kk H1 locs1 ?_ hS1
  rw [← ht]
  exact hB
theorem g_callv {st0 : List Value} {a : Array Value} (hr : va_Run p l e R s m args below meth c H locs 0 0 0 0 (F0 m pc ls st0) rest (QGv n ad E D σ' H.size a) (AD n ad H.size)) (hS : va_S (AD n ad s.heap.size) s.heap H locs)
    (kk : ∀ (H : Heap) (locs : List Loc), va_P D vwCl (wl n ad (E σ')) H → va_S (AD n ad s.heap.size) s.heap H locs → W p l e R s m args below meth c H locs 0 0 Q (F0 m (pc + 3) ls rest)) : W p l e R s m args below meth c H locs 0 0 Q (F0 m pc ls st0) := by
  refine va_callv hr hS (fun q _ h => AD_le hS.1 q h) (AD_le hS.1) (fun u t H1 locs1 ht hvm hw hB hz hk hS1 => ?_)
  refine kk H1 locs1 ?_ hS1
  rw [← ht]
  exact hB
theorem g_callr {st0 : List Value} {a : Array Value} {r : Nat} (hr : va_Run p l e R s m args below meth c H locs 0 0 0 0 (F0 m pc ls st0) rest (QGr n ad E D r σ' H.size a) (AD n ad H.size)) (hS : va_S (AD n ad s.heap.size) s.heap H locs)
    (kk : ∀ (H : Heap) (locs : List Loc), va_P D vwCl (wl n ad (E σ')) H → va_S (AD n ad s.heap.size) s.heap H locs → W p l e R s m args below meth c H locs 0 0 Q (F0 m (pc + 3) ls (.ref (ad r) :: rest))) : W p l e R s m args below meth c H locs 0 0 Q (F0 m pc ls st0) := by
  refine va_callr hr hS (fun q _ h => AD_le hS.1 q h) (AD_le hS.1) (fun u ra t H1 locs1 ht hvm hw hB hz hk hS1 => ?_)
  obtain ⟨rfl, hB⟩ := hB
  refine kk H1 locs1 ?_ hS1
  rw [← ht]
  exact hB
theorem g_start {y : MethodName} {ws ws' : List Cond} {rm : Room} {maxL : Nat} {ret : Option FieldType} {av : List Value} {sz : Nat} {Qc : Nat → Array Value → State → Outcome → State → Prop} (hy : plainName y.cls = true) (hw : ws = Cond.code y cc maxL ret :: ws') (hlen : (lg_sl av).length ≤ maxL)
    (body : ∀ (p : Program) (e : Env) (s : State) (m : MethodId) (args : Array Value) (below : List Frame) (meth : Method) (c : Code) (H : Heap) (locs : List Loc) (ls : Array Slot), p.tables.exec = Jvm.exec → c.code = cc → meth.sig.returnType = ret → (∀ w ∈ ws, w.before args s = true) → s.vm.findClass y.cls = some m.cls → meth.locks = false → c.maxLocals = maxL → K s → Z (AD n ad s.heap.size) s s.heap →
      va_P D vwCl (wl n ad (E σ)) H → va_S (AD n ad s.heap.size) s.heap H locs → lv_has ls maxL (lv_args 0 av) → W p l e rm s m args below meth c H locs 0 0 (MQ below (Qc s.heap.size) args s 0 0 (AD n ad s.heap.size)) (F0 m 0 ls [])) : Met l y ws rm (PG n ad E D K Z av σ sz) (Qc sz) 0 0 (AD n ad sz) := by
  refine Met.ofW (cc := cc) (maxL := maxL) (ret := ret) hy hw ?_
  intro p e s m args below meth c s₁ B hml hv
  obtain ⟨rfl, hsz, hP, hK, hZ⟩ := hv
  subst hsz
  rw [lg_entry_eq]
  exact body p e s m _ below meth c s.heap [] _ B.exec B.bytes B.returns (atoms_spec (ws := ws) B.pre) (findClass_of_methodNamed B.named) B.notSynchronized hml hK hZ hP va_S.rf (lv_entry av hlen)
theorem g_iret {r v : Int32} {tr : Option Int32} (hx : p.tables.exec = Jvm.exec) (hb : c.code = cc) (hr : meth.sig.returnType = some .int) (hlocks : meth.locks = false) (hP : va_P D vwCl (wl n ad (E σ)) H) (hS : va_S (AD n ad s.heap.size) s.heap H locs) (hv : v = r) (hdg : decode cc pc = .ok (.ireturn, 1)) : W p l e R s m args below meth c H locs 0 0 (MQ below (QGi n ad E D r σ s.heap.size) args s 0 0 (AD n ad s.heap.size)) (F0 m pc ls [.int v]) :=
  W.iret hx hb hr (fun t ht hW => ⟨⟨v, (), rfl, hv, by subst ht; exact hP⟩, hS.F ht⟩) hS.2.2 hdg
theorem W.zret2 {cc : ByteArray} {cells slots : Nat} {Qc : Array Value → State → Outcome → State → Prop} {free : Addr → Prop} {v w : Int32} {ty : FieldType} (hexec : p.tables.exec = Jvm.exec) (hb : c.code = cc) (hr : meth.sig.returnType = some ty) (hn : narrow ty (.int v) = .int w)
    (hq : ∀ t : State, t.heap = H → s.WarmedH t.vm → Qc args s (.returned (some (.int w))) t) (hf : ∀ q ∈ locs, free q.base)
    {pc : Nat} {ls : Array Slot} (hdg : decode cc pc = .ok (.ireturn, 1)) (hlocks : meth.locks = false) : W p l e R s m args below meth c H locs cells slots (MQ below Qc args s cells slots free) (F0 m pc ls [.int v]) := by
  intro T hT X
  obtain ⟨fs, hret, hrun, hended, hW, hframe⟩ := X.leave (v := some (.int w)) (fun h => by rw [hr] at h; cases h)
  have hmeth' : T.vm.method? m = some meth := X.method'
  refine ⟨T.setFrames fs, ?_, .returned (some (.int w)), hrun, hended, hq _ hT hW, locs, ⟨⟨_, rfl⟩, hW, hframe⟩, hf⟩
  jvm_step X.here [X.here.top, hexec, hb, hdg, hmeth', hr, hn]
  (try refine ⟨rfl, ?_⟩); (try refine ⟨rfl, ?_⟩)
  first | (intro acts; rw [hret _ acts rfl rfl rfl]) | rw [hret _ _ rfl rfl rfl]
  exact Steps.refl _
theorem g_zret {r v : Int32} (hx : p.tables.exec = Jvm.exec) (hb : c.code = cc) (hr : meth.sig.returnType = some .boolean) (hlocks : meth.locks = false) (hP : va_P D vwCl (wl n ad (E σ)) H) (hS : va_S (AD n ad s.heap.size) s.heap H locs) (hv : v &&& 1 = r) (hdg : decode cc pc = .ok (.ireturn, 1)) : W p l e R s m args below meth c H locs 0 0 (MQ below (QGi n ad E D r σ s.heap.size) args s 0 0 (AD n ad s.heap.size)) (F0 m pc ls [.int v]) :=
  W.zret2 hx hb hr (w := v &&& 1) (by simp [narrow]) (fun t ht hW => ⟨⟨v &&& 1, (), rfl, hv, by subst ht; exact hP⟩, hS.F ht⟩) hS.2.2 hdg hlocks
theorem g_lret {r v : Int64} (hx : p.tables.exec = Jvm.exec) (hb : c.code = cc) (hr : meth.sig.returnType = some .long) (hlocks : meth.locks = false) (hP : va_P D vwCl (wl n ad (E σ)) H) (hS : va_S (AD n ad s.heap.size) s.heap H locs) (hv : v = r) (hdg : decode cc pc = .ok (.lreturn, 1)) : W p l e R s m args below meth c H locs 0 0 (MQ below (QGl n ad E D r σ s.heap.size) args s 0 0 (AD n ad s.heap.size)) (F0 m pc ls [.long v]) :=
  W.lret hx hb hr (fun t ht hW => ⟨⟨v, (), rfl, hv, by subst ht; exact hP⟩, hS.F ht⟩) hS.2.2 hdg
theorem g_vret (hx : p.tables.exec = Jvm.exec) (hb : c.code = cc) (hr : meth.sig.returnType = none) (hlocks : meth.locks = false) (hP : va_P D vwCl (wl n ad (E σ)) H) (hS : va_S (AD n ad s.heap.size) s.heap H locs) (hdg : decode cc pc = .ok (.return_, 1)) : W p l e R s m args below meth c H locs 0 0 (MQ below (QGv n ad E D σ s.heap.size) args s 0 0 (AD n ad s.heap.size)) (F0 m pc ls []) :=
  W.vret hx hb hr (fun t ht hW => ⟨⟨(), rfl, trivial, by subst ht; exact hP⟩, hS.F ht⟩) hS.2.2 hdg
/-- names for what lies on top of the stack -/
theorem nm_i {cells slots : Nat} {x y : Int32} (h : y = x) (k : W p l e R s m args below meth c H locs cells slots Q (F0 m pc ls (.int y :: rest))) : W p l e R s m args below meth c H locs cells slots Q (F0 m pc ls (.int x :: rest)) := by rw [← h]; exact k
theorem nm_l {cells slots : Nat} {x y : Int64} (h : y = x) (k : W p l e R s m args below meth c H locs cells slots Q (F0 m pc ls (.long y :: rest))) : W p l e R s m args below meth c H locs cells slots Q (F0 m pc ls (.long x :: rest)) := by rw [← h]; exact k
end WB
end
section
def nwC : List Cond := [Cond.methodLinkNest "WitnessWall" 11 yX2_init "WitnessWall",
  Cond.methodLinkNest "WitnessWall$Hall" 21 yX7_init "WitnessWall",
  Cond.fieldLinkNest "WitnessWall" 108 "WitnessWall$Witness" "size" "I" "WitnessWall",
  Cond.fieldLinkNest "WitnessWall$Page" 73 "WitnessWall$Witness" "size" "I" "WitnessWall",
  Cond.fieldLinkNest "WitnessWall" 103 "WitnessWall$Witness" "kind" "I" "WitnessWall",
  Cond.fieldLinkNest "WitnessWall$Slips" 32 "WitnessWall$Hall" "witnesses" "[LWitnessWall$Witness;" "WitnessWall",
  Cond.fieldLinkNest "WitnessWall" 99 "WitnessWall$Hall" "witnesses" "[LWitnessWall$Witness;" "WitnessWall",
  Cond.fieldLinkNest "WitnessWall$Page" 96 "WitnessWall$Hall" "witnesses" "[LWitnessWall$Witness;" "WitnessWall",
  Cond.fieldLinkNest "WitnessWall$Page" 33 "WitnessWall$Hall" "size" "I" "WitnessWall",
  Cond.fieldLinkNest "WitnessWall$Slips" 25 "WitnessWall$Hall" "size" "I" "WitnessWall",
  Cond.fieldLinkNest "WitnessWall" 94 "WitnessWall$Hall" "size" "I" "WitnessWall",
  Cond.methodLinkNest "WitnessWall$Page" 24 yX0_init "WitnessWall",
  Cond.fieldLinkNest "WitnessWall$Term" 47 "WitnessWall$Cases" "things" "[I" "WitnessWall",
  Cond.fieldLinkNest "WitnessWall$Term" 38 "WitnessWall$Cases" "dues" "[I" "WitnessWall",
  Cond.fieldLinkNest "WitnessWall$Term" 32 "WitnessWall$Cases" "size" "I" "WitnessWall",
  Cond.fieldLinkNest "WitnessWall$Page" 34 "WitnessWall$Cases" "size" "I" "WitnessWall",
  Cond.fieldLinkNest "WitnessWall" 216 "WitnessWall$Cases" "size" "I" "WitnessWall",
  Cond.fieldLinkNest "WitnessWall" 242 "WitnessWall$Page" "letters" "[I" "WitnessWall",
  Cond.fieldLinkNest "WitnessWall" 81 "WitnessWall$Page" "hall" "LWitnessWall$Hall;" "WitnessWall",
  Cond.fieldLinkNest "WitnessWall" 88 "WitnessWall$Page" "cases" "LWitnessWall$Cases;" "WitnessWall",
  Cond.fieldLinkNest "WitnessWall" 66 "WitnessWall$Page" "size" "I" "WitnessWall",
  Cond.methodLinkNest "WitnessWall" 18 yX0_init "WitnessWall",
  Cond.methodLinkNest "WitnessWall" 25 yX3_init "WitnessWall",
  Cond.methodLinkNest "WitnessWall$Scene" 18 yX5_init "WitnessWall",
  Cond.fieldLinkNest "WitnessWall$Scene" 34 "WitnessWall$Slips" "size" "I" "WitnessWall",
  Cond.fieldLinkNest "WitnessWall" 163 "WitnessWall$Slips" "size" "I" "WitnessWall",
  Cond.methodLinkNest "WitnessWall$Scene" 25 yX4_init "WitnessWall",
  Cond.fieldLinkNest "WitnessWall$Scene" 38 "WitnessWall$Seen" "size" "I" "WitnessWall",
  Cond.fieldLinkNest "WitnessWall" 200 "WitnessWall$Seen" "size" "I" "WitnessWall",
  Cond.fieldLinkNest "WitnessWall" 93 "WitnessWall$Scene" "hall" "LWitnessWall$Hall;" "WitnessWall",
  Cond.fieldLinkNest "WitnessWall" 159 "WitnessWall$Scene" "slips" "LWitnessWall$Slips;" "WitnessWall",
  Cond.fieldLinkNest "WitnessWall" 113 "WitnessWall$Scene" "seen" "LWitnessWall$Seen;" "WitnessWall",
  Cond.fieldLinkNest "WitnessWall" 153 "WitnessWall$Scene" "shown" "I" "WitnessWall",
  Cond.methodLinkNest "WitnessWall" 42 yX6_init "WitnessWall",
  Cond.methodLinkNest "WitnessWall" 49 yX8_init "WitnessWall",
  Cond.fieldLinkNest "WitnessWall$Page" 61 "WitnessWall" "KIND_LETTERS" "[C" "WitnessWall",
  Cond.methodLinkNest "WitnessWall$Page" 76 yX9_isThing "WitnessWall",
  Cond.methodLinkNest "WitnessWall$Page" 82 yX9_isColour "WitnessWall",
  Cond.methodLinkNest "WitnessWall$Page" 89 yX9_isWithin "WitnessWall",
  Cond.fieldLinkNest "WitnessWall$Seen" 22 "WitnessWall" "COULD" "[I" "WitnessWall",
  Cond.methodLinkNest "WitnessWall$Slips" 28 yX9_isWithin "WitnessWall"]


def isNest : Cond → Bool
  | .fieldLinkNest _ _ _ _ _ _ => true
  | .methodLinkNest _ _ _ _ => true
  | _ => false
theorem nwC_all : nwC.all isNest = true := by decide +kernel
theorem nw_warm {w : Cond} (h : isNest w = true) {s U : State} (hW : s.WarmedH U.vm) (hZ : va_Nw w s) : va_Nw w U := by
  cases w <;> first | exact va_Nw.warmF hW hZ | exact va_Nw.warmM hW hZ | cases h
theorem nw_on {w : Cond} (h : isNest w = true) : w.onTables = true := by
  cases w <;> first | rfl | cases h
def up2 (σ : Nat → Nat → Int32) (k j : Nat) (x : Int32) : Nat → Nat → Int32 := va_up σ k (upd (σ k) j x)
abbrev SF : Type := (Nat → Int32) → va_E
def shW (ad : Nat → Nat) (cI : ClassId) (k : Nat) : List SF := [fun v => .inr (7, [.ref (ad (k + 1)), .int (v 1), .int (v 2)]), fun v => .inl (cI, 3, .inl v)]
def shA (cI : ClassId) (n : Nat) : SF := fun v => .inl (cI, n, .inl v)
def shR (ad : Nat → Nat) (cW : ClassId) (b : Nat) : SF := fun _ => .inl (cW, 5, .inr (.inr (.inr (.inr (fun i => some (ad (b + 2 * i)))))))
def shH (ad : Nat → Nat) (cI cW : ClassId) (k : Nat) : List SF := [fun v => .inr (1, [.ref (ad (k + 1)), .ref (ad (k + 2)), .int (v 2)]), shR ad cW (k + 3), shA cI 4] ++ shW ad cI (k + 3) ++ shW ad cI (k + 5) ++ shW ad cI (k + 7) ++ shW ad cI (k + 9) ++ shW ad cI (k + 11)
def shCs (ad : Nat → Nat) (cI : ClassId) (k : Nat) : List SF := [fun v => .inr (0, [.ref (ad (k + 1)), .ref (ad (k + 2)), .int (v 2)]), shA cI 4, shA cI 4]
def shSl (ad : Nat → Nat) (cI : ClassId) (k : Nat) : List SF := [fun v => .inr (5, [.ref (ad (k + 1)), .ref (ad (k + 2)), .ref (ad (k + 3)), .int (v 3)]), shA cI 6, shA cI 6, shA cI 6]
def shSe (ad : Nat → Nat) (cI : ClassId) (k : Nat) : List SF := [fun v => .inr (4, [.ref (ad (k + 1)), .ref (ad (k + 2)), .int (v 2)]), shA cI 6, shA cI 6]
def shSc (ad : Nat → Nat) (cI cW : ClassId) (k : Nat) : List SF := [fun v => .inr (3, [.ref (ad (k + 1)), .ref (ad (k + 14)), .ref (ad (k + 18)), .int (v 3)])] ++ shH ad cI cW (k + 1) ++ shSl ad cI (k + 14) ++ shSe ad cI (k + 18)
def shC (ad : Nat → Nat) (cI cW : ClassId) : List SF :=
  [fun v => .inr (9, [.ref (ad 1), .ref (ad 19), .ref (ad 22), .ref (ad 43), .ref (ad 64), .ref (ad 77), .ref (ad 80), .int (v 7), .int (v 8)]),
   fun v => .inr (2, [.ref (ad 2), .ref (ad 3), .ref (ad 16), .int (v 3), .int (v 4), .int (v 5)]), shA cI 54]
  ++ shH ad cI cW 3 ++ shCs ad cI 16 ++ shCs ad cI 19 ++ shSc ad cI cW 22 ++ shSc ad cI cW 43 ++ shH ad cI cW 64
  ++ [fun _ => .inr (6, [.ref (ad 78), .ref (ad 79)]), shA cI 7, shA cI 128, fun _ => .inr (8, [.ref (ad 81), .ref (ad 82)]), shA cI 32, shA cI 32]
def SHC (ad : Nat → Nat) (cI cW : ClassId) (k : Nat) : SF := (shC ad cI cW).getD k (fun _ => .inr (0, []))
def ec (ad : Nat → Nat) (cI cW : ClassId) (σ : Nat → Nat → Int32) : Nat → va_E := fun k => SHC ad cI cW k (σ k)
def oC (ad : Nat → Nat) (cI cW : ClassId) (k ci : Nat) (fs : (Nat → Int32) → List Value) : Prop := k < 83 ∧ ∀ v, SHC ad cI cW k v = .inr (ci, fs v)
def aC (ad : Nat → Nat) (cI cW : ClassId) (k n : Nat) : Prop := k < 83 ∧ ∀ v, SHC ad cI cW k v = .inl (cI, n, .inl v)
def rC (ad : Nat → Nat) (cI cW : ClassId) (k b : Nat) : Prop := k < 83 ∧ ∀ v, SHC ad cI cW k v = .inl (cW, 5, .inr (.inr (.inr (.inr (fun i => some (ad (b + 2 * i)))))))
abbrev iWit (ad : Nat → Nat) (cI cW : ClassId) (k : Nat) : Prop := oC ad cI cW k 7 (fun v => [.ref (ad (k + 1)), .int (v 1), .int (v 2)]) ∧ aC ad cI cW (k + 1) 3
abbrev iHall (ad : Nat → Nat) (cI cW : ClassId) (k : Nat) : Prop := oC ad cI cW k 1 (fun v => [.ref (ad (k + 1)), .ref (ad (k + 2)), .int (v 2)]) ∧ rC ad cI cW (k + 1) (k + 3) ∧ aC ad cI cW (k + 2) 4 ∧ ∀ i, i < 5 → iWit ad cI cW (k + 3 + 2 * i)
abbrev iCases (ad : Nat → Nat) (cI cW : ClassId) (k : Nat) : Prop := oC ad cI cW k 0 (fun v => [.ref (ad (k + 1)), .ref (ad (k + 2)), .int (v 2)]) ∧ aC ad cI cW (k + 1) 4 ∧ aC ad cI cW (k + 2) 4
abbrev iSeen (ad : Nat → Nat) (cI cW : ClassId) (k : Nat) : Prop := oC ad cI cW k 4 (fun v => [.ref (ad (k + 1)), .ref (ad (k + 2)), .int (v 2)]) ∧ aC ad cI cW (k + 1) 6 ∧ aC ad cI cW (k + 2) 6
abbrev iSlips (ad : Nat → Nat) (cI cW : ClassId) (k : Nat) : Prop := oC ad cI cW k 5 (fun v => [.ref (ad (k + 1)), .ref (ad (k + 2)), .ref (ad (k + 3)), .int (v 3)]) ∧ aC ad cI cW (k + 1) 6 ∧ aC ad cI cW (k + 2) 6 ∧ aC ad cI cW (k + 3) 6
abbrev iScene (ad : Nat → Nat) (cI cW : ClassId) (k : Nat) : Prop := oC ad cI cW k 3 (fun v => [.ref (ad (k + 1)), .ref (ad (k + 14)), .ref (ad (k + 18)), .int (v 3)]) ∧ iHall ad cI cW (k + 1) ∧ iSlips ad cI cW (k + 14) ∧ iSeen ad cI cW (k + 18)
abbrev iPage (ad : Nat → Nat) (cI cW : ClassId) (k : Nat) : Prop := oC ad cI cW k 2 (fun v => [.ref (ad (k + 1)), .ref (ad (k + 2)), .ref (ad (k + 15)), .int (v 3), .int (v 4), .int (v 5)]) ∧ aC ad cI cW (k + 1) 54 ∧ iHall ad cI cW (k + 2) ∧ iCases ad cI cW (k + 15)
abbrev iTerm (ad : Nat → Nat) (cI cW : ClassId) (k : Nat) : Prop := oC ad cI cW k 6 (fun _ => [.ref (ad (k + 1)), .ref (ad (k + 2))]) ∧ aC ad cI cW (k + 1) 7 ∧ aC ad cI cW (k + 2) 128
abbrev iWorlds (ad : Nat → Nat) (cI cW : ClassId) (k : Nat) : Prop := oC ad cI cW k 8 (fun _ => [.ref (ad (k + 1)), .ref (ad (k + 2))]) ∧ aC ad cI cW (k + 1) 32 ∧ aC ad cI cW (k + 2) 32
theorem q_WW {ad : Nat → Nat} {cI cW : ClassId} : oC ad cI cW 0 9 (fun v => [.ref (ad 1), .ref (ad 19), .ref (ad 22), .ref (ad 43), .ref (ad 64), .ref (ad 77), .ref (ad 80), .int (v 7), .int (v 8)]) := ⟨by decide, fun _ => rfl⟩

theorem q_Wit_6 {ad : Nat → Nat} {cI cW : ClassId} : iWit ad cI cW 6 := ⟨⟨by decide, fun _ => rfl⟩, ⟨by decide, fun _ => rfl⟩⟩
theorem q_Wit_8 {ad : Nat → Nat} {cI cW : ClassId} : iWit ad cI cW 8 := ⟨⟨by decide, fun _ => rfl⟩, ⟨by decide, fun _ => rfl⟩⟩
theorem q_Wit_10 {ad : Nat → Nat} {cI cW : ClassId} : iWit ad cI cW 10 := ⟨⟨by decide, fun _ => rfl⟩, ⟨by decide, fun _ => rfl⟩⟩
theorem q_Wit_12 {ad : Nat → Nat} {cI cW : ClassId} : iWit ad cI cW 12 := ⟨⟨by decide, fun _ => rfl⟩, ⟨by decide, fun _ => rfl⟩⟩
theorem q_Wit_14 {ad : Nat → Nat} {cI cW : ClassId} : iWit ad cI cW 14 := ⟨⟨by decide, fun _ => rfl⟩, ⟨by decide, fun _ => rfl⟩⟩
theorem q_Hall_3 {ad : Nat → Nat} {cI cW : ClassId} : iHall ad cI cW 3 := ⟨⟨by decide, fun _ => rfl⟩, ⟨by decide, fun _ => rfl⟩, ⟨by decide, fun _ => rfl⟩, fun i hi => by
  match i, hi with
  | 0, _ => exact q_Wit_6
  | 1, _ => exact q_Wit_8
  | 2, _ => exact q_Wit_10
  | 3, _ => exact q_Wit_12
  | 4, _ => exact q_Wit_14
  | i + 5, hi => exact absurd hi (by omega)⟩
theorem q_Wit_26 {ad : Nat → Nat} {cI cW : ClassId} : iWit ad cI cW 26 := ⟨⟨by decide, fun _ => rfl⟩, ⟨by decide, fun _ => rfl⟩⟩
theorem q_Wit_28 {ad : Nat → Nat} {cI cW : ClassId} : iWit ad cI cW 28 := ⟨⟨by decide, fun _ => rfl⟩, ⟨by decide, fun _ => rfl⟩⟩
theorem q_Wit_30 {ad : Nat → Nat} {cI cW : ClassId} : iWit ad cI cW 30 := ⟨⟨by decide, fun _ => rfl⟩, ⟨by decide, fun _ => rfl⟩⟩
theorem q_Wit_32 {ad : Nat → Nat} {cI cW : ClassId} : iWit ad cI cW 32 := ⟨⟨by decide, fun _ => rfl⟩, ⟨by decide, fun _ => rfl⟩⟩
theorem q_Wit_34 {ad : Nat → Nat} {cI cW : ClassId} : iWit ad cI cW 34 := ⟨⟨by decide, fun _ => rfl⟩, ⟨by decide, fun _ => rfl⟩⟩
theorem q_Hall_23 {ad : Nat → Nat} {cI cW : ClassId} : iHall ad cI cW 23 := ⟨⟨by decide, fun _ => rfl⟩, ⟨by decide, fun _ => rfl⟩, ⟨by decide, fun _ => rfl⟩, fun i hi => by
  match i, hi with
  | 0, _ => exact q_Wit_26
  | 1, _ => exact q_Wit_28
  | 2, _ => exact q_Wit_30
  | 3, _ => exact q_Wit_32
  | 4, _ => exact q_Wit_34
  | i + 5, hi => exact absurd hi (by omega)⟩
theorem q_Wit_47 {ad : Nat → Nat} {cI cW : ClassId} : iWit ad cI cW 47 := ⟨⟨by decide, fun _ => rfl⟩, ⟨by decide, fun _ => rfl⟩⟩
theorem q_Wit_49 {ad : Nat → Nat} {cI cW : ClassId} : iWit ad cI cW 49 := ⟨⟨by decide, fun _ => rfl⟩, ⟨by decide, fun _ => rfl⟩⟩
theorem q_Wit_51 {ad : Nat → Nat} {cI cW : ClassId} : iWit ad cI cW 51 := ⟨⟨by decide, fun _ => rfl⟩, ⟨by decide, fun _ => rfl⟩⟩
theorem q_Wit_53 {ad : Nat → Nat} {cI cW : ClassId} : iWit ad cI cW 53 := ⟨⟨by decide, fun _ => rfl⟩, ⟨by decide, fun _ => rfl⟩⟩
theorem q_Wit_55 {ad : Nat → Nat} {cI cW : ClassId} : iWit ad cI cW 55 := ⟨⟨by decide, fun _ => rfl⟩, ⟨by decide, fun _ => rfl⟩⟩
theorem q_Hall_44 {ad : Nat → Nat} {cI cW : ClassId} : iHall ad cI cW 44 := ⟨⟨by decide, fun _ => rfl⟩, ⟨by decide, fun _ => rfl⟩, ⟨by decide, fun _ => rfl⟩, fun i hi => by
  match i, hi with
  | 0, _ => exact q_Wit_47
  | 1, _ => exact q_Wit_49
  | 2, _ => exact q_Wit_51
  | 3, _ => exact q_Wit_53
  | 4, _ => exact q_Wit_55
  | i + 5, hi => exact absurd hi (by omega)⟩
theorem q_Wit_67 {ad : Nat → Nat} {cI cW : ClassId} : iWit ad cI cW 67 := ⟨⟨by decide, fun _ => rfl⟩, ⟨by decide, fun _ => rfl⟩⟩
theorem q_Wit_69 {ad : Nat → Nat} {cI cW : ClassId} : iWit ad cI cW 69 := ⟨⟨by decide, fun _ => rfl⟩, ⟨by decide, fun _ => rfl⟩⟩
theorem q_Wit_71 {ad : Nat → Nat} {cI cW : ClassId} : iWit ad cI cW 71 := ⟨⟨by decide, fun _ => rfl⟩, ⟨by decide, fun _ => rfl⟩⟩
theorem q_Wit_73 {ad : Nat → Nat} {cI cW : ClassId} : iWit ad cI cW 73 := ⟨⟨by decide, fun _ => rfl⟩, ⟨by decide, fun _ => rfl⟩⟩
theorem q_Wit_75 {ad : Nat → Nat} {cI cW : ClassId} : iWit ad cI cW 75 := ⟨⟨by decide, fun _ => rfl⟩, ⟨by decide, fun _ => rfl⟩⟩
theorem q_Hall_64 {ad : Nat → Nat} {cI cW : ClassId} : iHall ad cI cW 64 := ⟨⟨by decide, fun _ => rfl⟩, ⟨by decide, fun _ => rfl⟩, ⟨by decide, fun _ => rfl⟩, fun i hi => by
  match i, hi with
  | 0, _ => exact q_Wit_67
  | 1, _ => exact q_Wit_69
  | 2, _ => exact q_Wit_71
  | 3, _ => exact q_Wit_73
  | 4, _ => exact q_Wit_75
  | i + 5, hi => exact absurd hi (by omega)⟩
theorem q_Cases_16 {ad : Nat → Nat} {cI cW : ClassId} : iCases ad cI cW 16 := ⟨⟨by decide, fun _ => rfl⟩, ⟨by decide, fun _ => rfl⟩, ⟨by decide, fun _ => rfl⟩⟩
theorem q_Cases_19 {ad : Nat → Nat} {cI cW : ClassId} : iCases ad cI cW 19 := ⟨⟨by decide, fun _ => rfl⟩, ⟨by decide, fun _ => rfl⟩, ⟨by decide, fun _ => rfl⟩⟩
theorem q_Seen_40 {ad : Nat → Nat} {cI cW : ClassId} : iSeen ad cI cW 40 := ⟨⟨by decide, fun _ => rfl⟩, ⟨by decide, fun _ => rfl⟩, ⟨by decide, fun _ => rfl⟩⟩
theorem q_Seen_61 {ad : Nat → Nat} {cI cW : ClassId} : iSeen ad cI cW 61 := ⟨⟨by decide, fun _ => rfl⟩, ⟨by decide, fun _ => rfl⟩, ⟨by decide, fun _ => rfl⟩⟩
theorem q_Slips_36 {ad : Nat → Nat} {cI cW : ClassId} : iSlips ad cI cW 36 := ⟨⟨by decide, fun _ => rfl⟩, ⟨by decide, fun _ => rfl⟩, ⟨by decide, fun _ => rfl⟩, ⟨by decide, fun _ => rfl⟩⟩
theorem q_Slips_57 {ad : Nat → Nat} {cI cW : ClassId} : iSlips ad cI cW 57 := ⟨⟨by decide, fun _ => rfl⟩, ⟨by decide, fun _ => rfl⟩, ⟨by decide, fun _ => rfl⟩, ⟨by decide, fun _ => rfl⟩⟩
theorem q_Scene_22 {ad : Nat → Nat} {cI cW : ClassId} : iScene ad cI cW 22 := ⟨⟨by decide, fun _ => rfl⟩, q_Hall_23, q_Slips_36, q_Seen_40⟩
theorem q_Scene_43 {ad : Nat → Nat} {cI cW : ClassId} : iScene ad cI cW 43 := ⟨⟨by decide, fun _ => rfl⟩, q_Hall_44, q_Slips_57, q_Seen_61⟩
theorem q_Page_1 {ad : Nat → Nat} {cI cW : ClassId} : iPage ad cI cW 1 := ⟨⟨by decide, fun _ => rfl⟩, ⟨by decide, fun _ => rfl⟩, q_Hall_3, q_Cases_16⟩
theorem q_Term_77 {ad : Nat → Nat} {cI cW : ClassId} : iTerm ad cI cW 77 := ⟨⟨by decide, fun _ => rfl⟩, ⟨by decide, fun _ => rfl⟩, ⟨by decide, fun _ => rfl⟩⟩
theorem q_Worlds_80 {ad : Nat → Nat} {cI cW : ClassId} : iWorlds ad cI cW 80 := ⟨⟨by decide, fun _ => rfl⟩, ⟨by decide, fun _ => rfl⟩, ⟨by decide, fun _ => rfl⟩⟩
end
section
def fKl : Nat → Value := fun j => .int (([119, 102, 98, 109, 115] : List Int32).getD j 0)
def fCo : Nat → Value := fun j => .int (([25, 11, 27, 1] : List Int32).getD j 0)
def kl (i : Int32) : Int32 := ([119, 102, 98, 109, 115] : List Int32).getD i.toNatClampNeg 0
def co (i : Int32) : Int32 := ([25, 11, 27, 1] : List Int32).getD i.toNatClampNeg 0
def KC (D : va_G) (cI cW : ClassId) (U : State) : Prop := va_K D vwCl [(cI, .int), (cW, .object "WitnessWall$Witness")] U ∧ ∀ w ∈ nwC, va_Nw w U
def ZC (tK tC : Nat) (A : Nat → Prop) (U : State) (H : Heap) : Prop := va_Z "WitnessWall" "KIND_LETTERS" "[C" (.ref tK) A U H ∧ va_T .char tK 5 fKl A U H ∧ va_Z "WitnessWall" "COULD" "[I" (.ref tC) A U H ∧ va_T .int tC 4 fCo A U H
theorem KC_st {D : va_G} {cI cW : ClassId} : Kst (KC D cI cW) :=
  ⟨fun s U hW h => ⟨va_K.moved hW.alike h.1, fun w hw => nw_warm (List.all_eq_true.mp nwC_all w hw) hW (h.2 w hw)⟩, fun u U he h => ⟨va_K.moved (by rw [he]; exact Vm.Alike.refl _) h.1, fun w hw => va_Nw.same (nw_on (List.all_eq_true.mp nwC_all w hw)) he (h.2 w hw)⟩⟩
theorem ZC_st {tK tC : Nat} : Zst (ZC tK tC) :=
  ⟨fun A u U H hv h => ⟨h.1.moved hv, h.2.1.moved hv, h.2.2.1.moved hv, h.2.2.2.moved hv⟩, fun A B U H hAB h => ⟨h.1.narrow hAB, h.2.1.narrow hAB, h.2.2.1.narrow hAB, h.2.2.2.narrow hAB⟩, fun A U H H1 hq h => ⟨h.1.kept hq, h.2.1.kept hq, h.2.2.1.kept hq, h.2.2.2.kept hq⟩⟩
section CR
variable {p : Program} {l : Launch} {e : Env} {R : Room} {s : State} {m : MethodId} {args : Array Value} {below : List Frame} {meth : Method} {c : Code} {H : Heap} {locs : List Loc} {Q : State → Prop}
variable {cc : ByteArray} {pc : Nat} {ls : Array Slot} {rest : List Value} {D : va_G} {ad : Nat → Nat} {cI cW : ClassId} {tK tC : Nat} {σ : Nat → Nat → Int32}
theorem ec_o {k ci : Nat} {fs : (Nat → Int32) → List Value} (h : oC ad cI cW k ci fs) : ec ad cI cW σ k = .inr (ci, fs (σ k)) := h.2 _
theorem ec_up {k j : Nat} {x : Int32} : ec ad cI cW (up2 σ k j x) k = SHC ad cI cW k (upd (σ k) j x) := by simp [ec, up2, va_up]
theorem ec_ne {i k j : Nat} {x : Int32} (h : i ≠ k) : ec ad cI cW (up2 σ k j x) i = ec ad cI cW σ i := by simp [ec, up2, va_up, h]
theorem c_get (hx : p.tables.exec = Jvm.exec) (hb : c.code = cc) {own ref C : String} {T : u_T} {N ci index : Nat} {Ts : List Cond} (hts : ∀ w ∈ Ts, w.before args s = true) (hin : ∀ w ∈ u_ws C T N, w ∈ Ts) (hown : s.vm.findClass own = some m.cls) (hK : KC D cI cW s) (hP : va_P D vwCl (wl 83 ad (ec ad cI cW σ)) H) {k : Nat} {fs : (Nat → Int32) → List Value} (ho : oC ad cI cW k ci fs) (hc : vwCl[ci]? = some (C, T, N)) (j : Nat) (hj : j < N) (hlink : (Cond.fieldLink own index ref (T j).2.1 (T j).2.2.1).before args s = true) (hsame : ∀ x, s.fieldFound? (T j).1 (T j).2.1 (T j).2.2.1 = some x → s.fieldFound? ref (T j).2.1 (T j).2.2.1 = some x) {v : Value} (hv : (fs (σ k))[j]? = some v) (hdg : decode cc pc = .ok (.getfield index, 3))
    (kk : W p l e R s m args below meth c H locs 0 0 Q (F0 m (pc + 3) ls (v :: rest))) : W p l e R s m args below meth c H locs 0 0 Q (F0 m pc ls (.ref (ad k) :: rest)) :=
  va_get hx hb hts hin hown hK.1 hP k ((wl_at ho.1).trans (by rw [ec_o ho])) hc j hj hlink hsame hv hdg kk
theorem c_getN (hx : p.tables.exec = Jvm.exec) (hb : c.code = cc) {own ref C host : String} {T : u_T} {N ci index : Nat} {Ts : List Cond} (hts : ∀ w ∈ Ts, w.before args s = true) (hin : ∀ w ∈ u_ws C T N, w ∈ Ts) (hown : s.vm.findClass own = some m.cls) (hK : KC D cI cW s) (hP : va_P D vwCl (wl 83 ad (ec ad cI cW σ)) H) {k : Nat} {fs : (Nat → Int32) → List Value} (ho : oC ad cI cW k ci fs) (hc : vwCl[ci]? = some (C, T, N)) (j : Nat) (hj : j < N) (hlink : Cond.fieldLinkNest own index ref (T j).2.1 (T j).2.2.1 host ∈ nwC) (hsame : ∀ x, s.fieldFound? (T j).1 (T j).2.1 (T j).2.2.1 = some x → s.fieldFound? ref (T j).2.1 (T j).2.2.1 = some x) {v : Value} (hv : (fs (σ k))[j]? = some v) (hdg : decode cc pc = .ok (.getfield index, 3))
    (kk : W p l e R s m args below meth c H locs 0 0 Q (F0 m (pc + 3) ls (v :: rest))) : W p l e R s m args below meth c H locs 0 0 Q (F0 m pc ls (.ref (ad k) :: rest)) :=
  va_getN hx hb hts hin hown hK.1 hP k ((wl_at ho.1).trans (by rw [ec_o ho])) hc j hj (va_Nw.use rfl (hK.2 _ hlink)) hsame hv hdg kk
theorem c_put (hij : inj 83 ad) (hx : p.tables.exec = Jvm.exec) (hb : c.code = cc) {own ref C : String} {T : u_T} {N ci index : Nat} {Ts : List Cond} (hts : ∀ w ∈ Ts, w.before args s = true) (hin : ∀ w ∈ u_ws C T N, w ∈ Ts) (ty0 : Nat → FieldType) (hty : ∀ k, k < N → parseFieldDescriptor (T k).2.2.1 = some (ty0 k)) (hnm : ∀ a, a < N → ∀ b, b < N → a ≠ b → (T a).2.1 ≠ (T b).2.1) (hown : s.vm.findClass own = some m.cls) (hK : KC D cI cW s) (hP : va_P D vwCl (wl 83 ad (ec ad cI cW σ)) H) (hS : va_S (AD 83 ad s.heap.size) s.heap H locs) {k : Nat} {fs : (Nat → Int32) → List Value} (ho : oC ad cI cW k ci fs) (hc : vwCl[ci]? = some (C, T, N)) (j : Nat) (hj : j < N) (hlink : (Cond.fieldLink own index ref (T j).2.1 (T j).2.2.1).before args s = true) (hsame : ∀ x, s.fieldFound? (T j).1 (T j).2.1 (T j).2.2.1 = some x → s.fieldFound? ref (T j).2.1 (T j).2.2.1 = some x) (hfin : (T j).2.2.2 = false) {x : Int32} (hn : narrow (ty0 j) (.int x) = .int x) (hfit : fits (ty0 j) (.int x) = true) (hl : ∀ v, j < (fs v).length) (hset : ∀ v, (fs v).set j (.int x) = fs (upd v j x))
    (hdg : decode cc pc = .ok (.putfield index, 3)) (kk : ∀ (H : Heap) (locs : List Loc), va_P D vwCl (wl 83 ad (ec ad cI cW (up2 σ k j x))) H → va_S (AD 83 ad s.heap.size) s.heap H locs → W p l e R s m args below meth c H locs 0 0 Q (F0 m (pc + 3) ls rest)) : W p l e R s m args below meth c H locs 0 0 Q (F0 m pc ls (.int x :: .ref (ad k) :: rest)) := by
  refine va_put hx hb hts hin ty0 hty hnm hown hK.1 hP (wl_D hij) hS k ((wl_at ho.1).trans (by rw [ec_o ho])) hc j hj hlink hsame hfin (hty j hj) hn hfit (hl _) hdg (fun H1 locs1 hP1 _ hS1 => kk H1 locs1 ?_ hS1)
  rw [wl_set (E' := ec ad cI cW (up2 σ k j x)) (by rw [ec_up, ho.2, hset]) (fun i hi => ec_ne hi)] at hP1
  exact hP1
theorem c_putN (hij : inj 83 ad) (hx : p.tables.exec = Jvm.exec) (hb : c.code = cc) {own ref C host : String} {T : u_T} {N ci index : Nat} {Ts : List Cond} (hts : ∀ w ∈ Ts, w.before args s = true) (hin : ∀ w ∈ u_ws C T N, w ∈ Ts) (ty0 : Nat → FieldType) (hty : ∀ k, k < N → parseFieldDescriptor (T k).2.2.1 = some (ty0 k)) (hnm : ∀ a, a < N → ∀ b, b < N → a ≠ b → (T a).2.1 ≠ (T b).2.1) (hown : s.vm.findClass own = some m.cls) (hK : KC D cI cW s) (hP : va_P D vwCl (wl 83 ad (ec ad cI cW σ)) H) (hS : va_S (AD 83 ad s.heap.size) s.heap H locs) {k : Nat} {fs : (Nat → Int32) → List Value} (ho : oC ad cI cW k ci fs) (hc : vwCl[ci]? = some (C, T, N)) (j : Nat) (hj : j < N) (hlink : Cond.fieldLinkNest own index ref (T j).2.1 (T j).2.2.1 host ∈ nwC) (hsame : ∀ x, s.fieldFound? (T j).1 (T j).2.1 (T j).2.2.1 = some x → s.fieldFound? ref (T j).2.1 (T j).2.2.1 = some x) (hfin : (T j).2.2.2 = false) {x : Int32} (hn : narrow (ty0 j) (.int x) = .int x) (hfit : fits (ty0 j) (.int x) = true) (hl : ∀ v, j < (fs v).length) (hset : ∀ v, (fs v).set j (.int x) = fs (upd v j x))
    (hdg : decode cc pc = .ok (.putfield index, 3)) (kk : ∀ (H : Heap) (locs : List Loc), va_P D vwCl (wl 83 ad (ec ad cI cW (up2 σ k j x))) H → va_S (AD 83 ad s.heap.size) s.heap H locs → W p l e R s m args below meth c H locs 0 0 Q (F0 m (pc + 3) ls rest)) : W p l e R s m args below meth c H locs 0 0 Q (F0 m pc ls (.int x :: .ref (ad k) :: rest)) := by
  refine va_putN hx hb hts hin ty0 hty hnm hown hK.1 hP (wl_D hij) hS k ((wl_at ho.1).trans (by rw [ec_o ho])) hc j hj (va_Nw.use rfl (hK.2 _ hlink)) hsame hfin (hty j hj) hn hfit (hl _) hdg (fun H1 locs1 hP1 _ hS1 => kk H1 locs1 ?_ hS1)
  rw [wl_set (E' := ec ad cI cW (up2 σ k j x)) (by rw [ec_up, ho.2, hset]) (fun i hi => ec_ne hi)] at hP1
  exact hP1
theorem c_iald (hx : p.tables.exec = Jvm.exec) (hb : c.code = cc) (hK : KC D cI cW s) (hP : va_P D vwCl (wl 83 ad (ec ad cI cW σ)) H) {k n : Nat} (ha : aC ad cI cW k n) {i : Int32} (hin : inb i n = true) (hdg : decode cc pc = .ok (.iaload, 1))
    (kk : W p l e R s m args below meth c H locs 0 0 Q (F0 m (pc + 1) ls (.int (σ k i.toNatClampNeg) :: rest))) : W p l e R s m args below meth c H locs 0 0 Q (F0 m pc ls (.int i :: .ref (ad k) :: rest)) :=
  va_iald hx hb hK.1 hP k 0 ((wl_at ha.1).trans (by rw [show ec ad cI cW σ k = _ from ha.2 _])) rfl (st_in hin) hdg kk
theorem c_iast (hij : inj 83 ad) (hx : p.tables.exec = Jvm.exec) (hb : c.code = cc) (hK : KC D cI cW s) (hP : va_P D vwCl (wl 83 ad (ec ad cI cW σ)) H) (hS : va_S (AD 83 ad s.heap.size) s.heap H locs) {k n : Nat} (ha : aC ad cI cW k n) {i x : Int32} (hin : inb i n = true) (hdg : decode cc pc = .ok (.iastore, 1))
    (kk : ∀ (H : Heap) (locs : List Loc), va_P D vwCl (wl 83 ad (ec ad cI cW (up2 σ k i.toNatClampNeg x))) H → va_S (AD 83 ad s.heap.size) s.heap H locs → W p l e R s m args below meth c H locs 0 0 Q (F0 m (pc + 1) ls rest)) : W p l e R s m args below meth c H locs 0 0 Q (F0 m pc ls (.int x :: .int i :: .ref (ad k) :: rest)) := by
  refine va_iast hx hb hK.1 hP (wl_D hij) hS k 0 ((wl_at ha.1).trans (by rw [show ec ad cI cW σ k = _ from ha.2 _])) rfl (st_in hin) hdg (fun H1 locs1 hP1 _ hS1 => kk H1 locs1 ?_ hS1)
  rw [wl_set (E' := ec ad cI cW (up2 σ k i.toNatClampNeg x)) (by rw [ec_up, ha.2]) (fun i hi => ec_ne hi)] at hP1
  exact hP1
theorem c_aald (hx : p.tables.exec = Jvm.exec) (hb : c.code = cc) (hK : KC D cI cW s) (hP : va_P D vwCl (wl 83 ad (ec ad cI cW σ)) H) {k b : Nat} (ha : rC ad cI cW k b) {i : Int32} (hin : inb i 5 = true) (hdg : decode cc pc = .ok (.aaload, 1))
    (kk : W p l e R s m args below meth c H locs 0 0 Q (F0 m (pc + 1) ls (.ref (ad (b + 2 * i.toNatClampNeg)) :: rest))) : W p l e R s m args below meth c H locs 0 0 Q (F0 m pc ls (.int i :: .ref (ad k) :: rest)) :=
  va_aldq (f := fun i => some (ad (b + 2 * i))) hx hb hK.1 hP k 1 ((wl_at ha.1).trans (by rw [show ec ad cI cW σ k = _ from ha.2 _])) rfl (st_in hin) hdg kk
theorem c_kl (hx : p.tables.exec = Jvm.exec) (hb : c.code = cc) (hZ : ZC tK tC (AD 83 ad s.heap.size) s s.heap) (hS : va_S (AD 83 ad s.heap.size) s.heap H locs) {i : Int32} (hin : inb i 5 = true) (hdg : decode cc pc = .ok (.caload, 1))
    (kk : W p l e R s m args below meth c H locs 0 0 Q (F0 m (pc + 1) ls (.int (kl i) :: rest))) : W p l e R s m args below meth c H locs 0 0 Q (F0 m pc ls (.int i :: .ref tK :: rest)) :=
  va_tc hx hb hZ.2.1 hS (st_in hin) rfl hdg kk
theorem c_co (hx : p.tables.exec = Jvm.exec) (hb : c.code = cc) (hZ : ZC tK tC (AD 83 ad s.heap.size) s s.heap) (hS : va_S (AD 83 ad s.heap.size) s.heap H locs) {i : Int32} (hin : inb i 4 = true) (hdg : decode cc pc = .ok (.iaload, 1))
    (kk : W p l e R s m args below meth c H locs 0 0 Q (F0 m (pc + 1) ls (.int (co i) :: rest))) : W p l e R s m args below meth c H locs 0 0 Q (F0 m pc ls (.int i :: .ref tC :: rest)) :=
  va_ti hx hb hZ.2.2.2 hS (st_in hin) rfl hdg kk
end CR
-- ===== words of a method: its own code, and all good words of the tables =====
def wz (y : MethodName) (c : ByteArray) (n : Nat) (r : Option FieldType) : List Cond := .code y c n r :: TG
theorem wz_m {y : MethodName} {c : ByteArray} {n : Nat} {r : Option FieldType} {w : Cond} (h : w ∈ TG) : w ∈ wz y c n r := List.mem_cons_of_mem _ h
theorem TG_good {w : Cond} (h : w ∈ TG) : goodWord w = true := (List.mem_filter.mp h).2
theorem wz_good {y : MethodName} {c : ByteArray} {n : Nat} {r : Option FieldType} {y' : MethodName} {c' : ByteArray} {n' : Nat} {r' : Option FieldType} (h : Cond.code y' c' n' r' ∈ TG) : GoodIn (wz y c n r) (wz y' c' n' r') := by
  intro w hw
  rcases List.mem_cons.mp hw with rfl | hw
  · exact ⟨wz_m h, good_of_word (TG_good h)⟩
  · exact ⟨wz_m hw, good_of_word (TG_good hw)⟩
theorem wz_V {y : MethodName} {c : ByteArray} {n : Nat} {r : Option FieldType} {own C : String} {idx : Nat} {y' : MethodName} {c' : ByteArray} {n' : Nat} {r' : Option FieldType} (h1 : Cond.methodLink own idx y' ∈ TG) (h2 : Cond.instanceMethod y' ∈ TG) (h3 : Cond.selects C y' y' ∈ TG) (h4 : Cond.initialized C ∈ TG) (h : Cond.code y' c' n' r' ∈ TG) : GoodIn (wz y c n r) (wsV own idx C y' (wz y' c' n' r')) := by
  intro w hw
  rcases List.mem_append.mp hw with hw | hw
  · have hT : w ∈ TG := by
      simp only [List.mem_cons, List.not_mem_nil, or_false] at hw
      rcases hw with rfl | rfl | rfl | rfl
      · exact h1
      · exact h2
      · exact h3
      · exact h4
    exact ⟨wz_m hT, good_of_word (TG_good hT)⟩
  · exact wz_good h w hw
theorem wz_S {y : MethodName} {c : ByteArray} {n : Nat} {r : Option FieldType} {own : String} {idx : Nat} {y' : MethodName} {c' : ByteArray} {n' : Nat} {r' : Option FieldType} (h1 : Cond.methodLink own idx y' ∈ TG) (h2 : Cond.static y' ∈ TG) (h4 : Cond.initialized y'.cls ∈ TG) (h : Cond.code y' c' n' r' ∈ TG) : GoodIn (wz y c n r) (va_wsS own idx y' (wz y' c' n' r')) := by
  intro w hw
  rcases List.mem_append.mp hw with hw | hw
  · have hT : w ∈ TG := by
      simp only [List.mem_cons, List.not_mem_nil, or_false] at hw
      rcases hw with rfl | rfl | rfl
      · exact h1
      · exact h2
      · exact h4
    exact ⟨wz_m hT, good_of_word (TG_good hT)⟩
  · exact wz_good h w hw
end
