section
-- ===== PART A: goes FIRST, ahead of the names: the tables' words, and 'selects' of the private methods out of them =====
/-- a private method of a class that the tables say can be made, by its rows of tables_1 -/
def lw_okq (q : MethodName × Nat) : Prop := (q.1.cls ≠ "java/lang/invoke/MethodHandle" ∧ q.1.cls ≠ "java/lang/invoke/VarHandle") ∧ Cond.instantiable q.1.cls q.2 ∈ tables_1 ∧ Cond.privateMethod q.1 ∈ tables_1 ∧ Cond.instanceMethod q.1 ∈ tables_1
theorem lw_p0 : lw_okq (⟨"WallHands", "textOf", "(I)LWallHands$Text;"⟩, 14) := ⟨⟨by decide +kernel, by decide +kernel⟩, List.mem_of_getElem? (i := 21) (by decide +kernel), List.mem_of_getElem? (i := 283) (by decide +kernel), List.mem_of_getElem? (i := 284) (by decide +kernel)⟩
theorem lw_p1 : lw_okq (⟨"WallHands", "retell", "(I)V"⟩, 14) := ⟨⟨by decide +kernel, by decide +kernel⟩, List.mem_of_getElem? (i := 21) (by decide +kernel), List.mem_of_getElem? (i := 287) (by decide +kernel), List.mem_of_getElem? (i := 288) (by decide +kernel)⟩
theorem lw_p2 : lw_okq (⟨"WallHands$Wall", "lay", "(LWallHands$Text;)V"⟩, 5) := ⟨⟨by decide +kernel, by decide +kernel⟩, List.mem_of_getElem? (i := 48) (by decide +kernel), List.mem_of_getElem? (i := 302) (by decide +kernel), List.mem_of_getElem? (i := 303) (by decide +kernel)⟩
theorem lw_p3 : lw_okq (⟨"WallHands", "found", "(I)I"⟩, 14) := ⟨⟨by decide +kernel, by decide +kernel⟩, List.mem_of_getElem? (i := 21) (by decide +kernel), List.mem_of_getElem? (i := 474) (by decide +kernel), List.mem_of_getElem? (i := 475) (by decide +kernel)⟩
theorem lw_p4 : lw_okq (⟨"WallHands", "asTold", "()LWallHands$Years;"⟩, 14) := ⟨⟨by decide +kernel, by decide +kernel⟩, List.mem_of_getElem? (i := 21) (by decide +kernel), List.mem_of_getElem? (i := 482) (by decide +kernel), List.mem_of_getElem? (i := 483) (by decide +kernel)⟩
theorem lw_p5 : lw_okq (⟨"WallHands$Years", "freeze", "(LWallHands$Frosts;II)I"⟩, 10) := ⟨⟨by decide +kernel, by decide +kernel⟩, List.mem_of_getElem? (i := 171) (by decide +kernel), List.mem_of_getElem? (i := 496) (by decide +kernel), List.mem_of_getElem? (i := 497) (by decide +kernel)⟩
theorem lw_p6 : lw_okq (⟨"WallHands$Years", "holdingOf", "(II)J"⟩, 10) := ⟨⟨by decide +kernel, by decide +kernel⟩, List.mem_of_getElem? (i := 171) (by decide +kernel), List.mem_of_getElem? (i := 500) (by decide +kernel), List.mem_of_getElem? (i := 501) (by decide +kernel)⟩
theorem lw_p7 : lw_okq (⟨"WallHands$Years", "nowOf", "(I)J"⟩, 10) := ⟨⟨by decide +kernel, by decide +kernel⟩, List.mem_of_getElem? (i := 171) (by decide +kernel), List.mem_of_getElem? (i := 511) (by decide +kernel), List.mem_of_getElem? (i := 512) (by decide +kernel)⟩
theorem lw_p8 : lw_okq (⟨"WallHands$Years", "leave", "(J)I"⟩, 10) := ⟨⟨by decide +kernel, by decide +kernel⟩, List.mem_of_getElem? (i := 171) (by decide +kernel), List.mem_of_getElem? (i := 520) (by decide +kernel), List.mem_of_getElem? (i := 521) (by decide +kernel)⟩
theorem lw_p9 : lw_okq (⟨"WallHands$Years", "fillGaps", "(I)Z"⟩, 10) := ⟨⟨by decide +kernel, by decide +kernel⟩, List.mem_of_getElem? (i := 171) (by decide +kernel), List.mem_of_getElem? (i := 530) (by decide +kernel), List.mem_of_getElem? (i := 531) (by decide +kernel)⟩
theorem lw_p10 : lw_okq (⟨"WallHands$Years", "fillGap", "(II)Z"⟩, 10) := ⟨⟨by decide +kernel, by decide +kernel⟩, List.mem_of_getElem? (i := 171) (by decide +kernel), List.mem_of_getElem? (i := 534) (by decide +kernel), List.mem_of_getElem? (i := 535) (by decide +kernel)⟩
theorem lw_p11 : lw_okq (⟨"WallHands$Years", "openColumns", "()I"⟩, 10) := ⟨⟨by decide +kernel, by decide +kernel⟩, List.mem_of_getElem? (i := 171) (by decide +kernel), List.mem_of_getElem? (i := 538) (by decide +kernel), List.mem_of_getElem? (i := 539) (by decide +kernel)⟩
theorem lw_p12 : lw_okq (⟨"WallHands", "mostAlike", "(II)I"⟩, 14) := ⟨⟨by decide +kernel, by decide +kernel⟩, List.mem_of_getElem? (i := 21) (by decide +kernel), List.mem_of_getElem? (i := 651) (by decide +kernel), List.mem_of_getElem? (i := 652) (by decide +kernel)⟩
theorem lw_p13 : lw_okq (⟨"WallHands", "waysOf", "(II)J"⟩, 14) := ⟨⟨by decide +kernel, by decide +kernel⟩, List.mem_of_getElem? (i := 21) (by decide +kernel), List.mem_of_getElem? (i := 661) (by decide +kernel), List.mem_of_getElem? (i := 662) (by decide +kernel)⟩
theorem lw_p14 : lw_okq (⟨"WallHandsModel", "faultOf", "(I)I"⟩, 45) := ⟨⟨by decide +kernel, by decide +kernel⟩, List.mem_of_getElem? (i := 744) (by decide +kernel), List.mem_of_getElem? (i := 909) (by decide +kernel), List.mem_of_getElem? (i := 910) (by decide +kernel)⟩
theorem lw_p15 : lw_okq (⟨"WallHandsModel", "readsWall", "()I"⟩, 45) := ⟨⟨by decide +kernel, by decide +kernel⟩, List.mem_of_getElem? (i := 744) (by decide +kernel), List.mem_of_getElem? (i := 913) (by decide +kernel), List.mem_of_getElem? (i := 914) (by decide +kernel)⟩
def lw_privs_1 : List (MethodName × Nat) := [(⟨"WallHands", "textOf", "(I)LWallHands$Text;"⟩, 14), (⟨"WallHands", "retell", "(I)V"⟩, 14), (⟨"WallHands$Wall", "lay", "(LWallHands$Text;)V"⟩, 5), (⟨"WallHands", "found", "(I)I"⟩, 14), (⟨"WallHands", "asTold", "()LWallHands$Years;"⟩, 14), (⟨"WallHands$Years", "freeze", "(LWallHands$Frosts;II)I"⟩, 10), (⟨"WallHands$Years", "holdingOf", "(II)J"⟩, 10), (⟨"WallHands$Years", "nowOf", "(I)J"⟩, 10), (⟨"WallHands$Years", "leave", "(J)I"⟩, 10), (⟨"WallHands$Years", "fillGaps", "(I)Z"⟩, 10), (⟨"WallHands$Years", "fillGap", "(II)Z"⟩, 10), (⟨"WallHands$Years", "openColumns", "()I"⟩, 10), (⟨"WallHands", "mostAlike", "(II)I"⟩, 14), (⟨"WallHands", "waysOf", "(II)J"⟩, 14), (⟨"WallHandsModel", "faultOf", "(I)I"⟩, 45), (⟨"WallHandsModel", "readsWall", "()I"⟩, 45)]
theorem lw_r1 : ∀ q ∈ lw_privs_1, lw_okq q := List.forall_mem_cons.mpr ⟨lw_p0, List.forall_mem_cons.mpr ⟨lw_p1, List.forall_mem_cons.mpr ⟨lw_p2, List.forall_mem_cons.mpr ⟨lw_p3, List.forall_mem_cons.mpr ⟨lw_p4, List.forall_mem_cons.mpr ⟨lw_p5, List.forall_mem_cons.mpr ⟨lw_p6, List.forall_mem_cons.mpr ⟨lw_p7, List.forall_mem_cons.mpr ⟨lw_p8, List.forall_mem_cons.mpr ⟨lw_p9, List.forall_mem_cons.mpr ⟨lw_p10, List.forall_mem_cons.mpr ⟨lw_p11, List.forall_mem_cons.mpr ⟨lw_p12, List.forall_mem_cons.mpr ⟨lw_p13, List.forall_mem_cons.mpr ⟨lw_p14, List.forall_mem_cons.mpr ⟨lw_p15, fun _ h => absurd h List.not_mem_nil⟩⟩⟩⟩⟩⟩⟩⟩⟩⟩⟩⟩⟩⟩⟩⟩
theorem lw_p16 : lw_okq (⟨"WallHandsModel", "noWall", "()V"⟩, 45) := ⟨⟨by decide +kernel, by decide +kernel⟩, List.mem_of_getElem? (i := 744) (by decide +kernel), List.mem_of_getElem? (i := 917) (by decide +kernel), List.mem_of_getElem? (i := 918) (by decide +kernel)⟩
theorem lw_p17 : lw_okq (⟨"WallHandsModel", "faultOfWall", "()I"⟩, 45) := ⟨⟨by decide +kernel, by decide +kernel⟩, List.mem_of_getElem? (i := 744) (by decide +kernel), List.mem_of_getElem? (i := 921) (by decide +kernel), List.mem_of_getElem? (i := 922) (by decide +kernel)⟩
theorem lw_p18 : lw_okq (⟨"WallHandsModel", "readsHands", "()I"⟩, 45) := ⟨⟨by decide +kernel, by decide +kernel⟩, List.mem_of_getElem? (i := 744) (by decide +kernel), List.mem_of_getElem? (i := 925) (by decide +kernel), List.mem_of_getElem? (i := 926) (by decide +kernel)⟩
theorem lw_p19 : lw_okq (⟨"WallHandsModel", "readsHand", "(II)I"⟩, 45) := ⟨⟨by decide +kernel, by decide +kernel⟩, List.mem_of_getElem? (i := 744) (by decide +kernel), List.mem_of_getElem? (i := 929) (by decide +kernel), List.mem_of_getElem? (i := 930) (by decide +kernel)⟩
theorem lw_p20 : lw_okq (⟨"WallHandsModel", "handByte", "(I)I"⟩, 45) := ⟨⟨by decide +kernel, by decide +kernel⟩, List.mem_of_getElem? (i := 744) (by decide +kernel), List.mem_of_getElem? (i := 933) (by decide +kernel), List.mem_of_getElem? (i := 934) (by decide +kernel)⟩
theorem lw_p21 : lw_okq (⟨"WallHandsModel", "stoneOf", "(I)I"⟩, 45) := ⟨⟨by decide +kernel, by decide +kernel⟩, List.mem_of_getElem? (i := 744) (by decide +kernel), List.mem_of_getElem? (i := 947) (by decide +kernel), List.mem_of_getElem? (i := 948) (by decide +kernel)⟩
theorem lw_p22 : lw_okq (⟨"WallHandsModel", "reads", "()V"⟩, 45) := ⟨⟨by decide +kernel, by decide +kernel⟩, List.mem_of_getElem? (i := 744) (by decide +kernel), List.mem_of_getElem? (i := 951) (by decide +kernel), List.mem_of_getElem? (i := 952) (by decide +kernel)⟩
theorem lw_p23 : lw_okq (⟨"WallHandsModel", "isHand", "(I)Z"⟩, 45) := ⟨⟨by decide +kernel, by decide +kernel⟩, List.mem_of_getElem? (i := 744) (by decide +kernel), List.mem_of_getElem? (i := 959) (by decide +kernel), List.mem_of_getElem? (i := 960) (by decide +kernel)⟩
theorem lw_p24 : lw_okq (⟨"WallHandsModel", "handOf", "(II)I"⟩, 45) := ⟨⟨by decide +kernel, by decide +kernel⟩, List.mem_of_getElem? (i := 744) (by decide +kernel), List.mem_of_getElem? (i := 963) (by decide +kernel), List.mem_of_getElem? (i := 964) (by decide +kernel)⟩
theorem lw_p25 : lw_okq (⟨"WallHandsModel", "meets", "(I)I"⟩, 45) := ⟨⟨by decide +kernel, by decide +kernel⟩, List.mem_of_getElem? (i := 744) (by decide +kernel), List.mem_of_getElem? (i := 993) (by decide +kernel), List.mem_of_getElem? (i := 994) (by decide +kernel)⟩
theorem lw_p26 : lw_okq (⟨"WallHandsModel", "atOf", "(III)I"⟩, 45) := ⟨⟨by decide +kernel, by decide +kernel⟩, List.mem_of_getElem? (i := 744) (by decide +kernel), List.mem_of_getElem? (i := 1002) (by decide +kernel), List.mem_of_getElem? (i := 1003) (by decide +kernel)⟩
theorem lw_p27 : lw_okq (⟨"WallHandsModel", "runsTold", "()V"⟩, 45) := ⟨⟨by decide +kernel, by decide +kernel⟩, List.mem_of_getElem? (i := 744) (by decide +kernel), List.mem_of_getElem? (i := 1006) (by decide +kernel), List.mem_of_getElem? (i := 1007) (by decide +kernel)⟩
theorem lw_p28 : lw_okq (⟨"WallHandsModel", "asTold", "()V"⟩, 45) := ⟨⟨by decide +kernel, by decide +kernel⟩, List.mem_of_getElem? (i := 744) (by decide +kernel), List.mem_of_getElem? (i := 1010) (by decide +kernel), List.mem_of_getElem? (i := 1011) (by decide +kernel)⟩
theorem lw_p29 : lw_okq (⟨"WallHandsModel", "runs", "()V"⟩, 45) := ⟨⟨by decide +kernel, by decide +kernel⟩, List.mem_of_getElem? (i := 744) (by decide +kernel), List.mem_of_getElem? (i := 1014) (by decide +kernel), List.mem_of_getElem? (i := 1015) (by decide +kernel)⟩
theorem lw_p30 : lw_okq (⟨"WallHandsModel", "goesBy", "(I)V"⟩, 45) := ⟨⟨by decide +kernel, by decide +kernel⟩, List.mem_of_getElem? (i := 744) (by decide +kernel), List.mem_of_getElem? (i := 1018) (by decide +kernel), List.mem_of_getElem? (i := 1019) (by decide +kernel)⟩
theorem lw_p31 : lw_okq (⟨"WallHandsModel", "freezes", "(I)V"⟩, 45) := ⟨⟨by decide +kernel, by decide +kernel⟩, List.mem_of_getElem? (i := 744) (by decide +kernel), List.mem_of_getElem? (i := 1025) (by decide +kernel), List.mem_of_getElem? (i := 1026) (by decide +kernel)⟩
def lw_privs_2 : List (MethodName × Nat) := [(⟨"WallHandsModel", "noWall", "()V"⟩, 45), (⟨"WallHandsModel", "faultOfWall", "()I"⟩, 45), (⟨"WallHandsModel", "readsHands", "()I"⟩, 45), (⟨"WallHandsModel", "readsHand", "(II)I"⟩, 45), (⟨"WallHandsModel", "handByte", "(I)I"⟩, 45), (⟨"WallHandsModel", "stoneOf", "(I)I"⟩, 45), (⟨"WallHandsModel", "reads", "()V"⟩, 45), (⟨"WallHandsModel", "isHand", "(I)Z"⟩, 45), (⟨"WallHandsModel", "handOf", "(II)I"⟩, 45), (⟨"WallHandsModel", "meets", "(I)I"⟩, 45), (⟨"WallHandsModel", "atOf", "(III)I"⟩, 45), (⟨"WallHandsModel", "runsTold", "()V"⟩, 45), (⟨"WallHandsModel", "asTold", "()V"⟩, 45), (⟨"WallHandsModel", "runs", "()V"⟩, 45), (⟨"WallHandsModel", "goesBy", "(I)V"⟩, 45), (⟨"WallHandsModel", "freezes", "(I)V"⟩, 45)]
theorem lw_r2 : ∀ q ∈ lw_privs_2, lw_okq q := List.forall_mem_cons.mpr ⟨lw_p16, List.forall_mem_cons.mpr ⟨lw_p17, List.forall_mem_cons.mpr ⟨lw_p18, List.forall_mem_cons.mpr ⟨lw_p19, List.forall_mem_cons.mpr ⟨lw_p20, List.forall_mem_cons.mpr ⟨lw_p21, List.forall_mem_cons.mpr ⟨lw_p22, List.forall_mem_cons.mpr ⟨lw_p23, List.forall_mem_cons.mpr ⟨lw_p24, List.forall_mem_cons.mpr ⟨lw_p25, List.forall_mem_cons.mpr ⟨lw_p26, List.forall_mem_cons.mpr ⟨lw_p27, List.forall_mem_cons.mpr ⟨lw_p28, List.forall_mem_cons.mpr ⟨lw_p29, List.forall_mem_cons.mpr ⟨lw_p30, List.forall_mem_cons.mpr ⟨lw_p31, fun _ h => absurd h List.not_mem_nil⟩⟩⟩⟩⟩⟩⟩⟩⟩⟩⟩⟩⟩⟩⟩⟩
theorem lw_p32 : lw_okq (⟨"WallHandsModel", "holdAll", "()V"⟩, 45) := ⟨⟨by decide +kernel, by decide +kernel⟩, List.mem_of_getElem? (i := 744) (by decide +kernel), List.mem_of_getElem? (i := 1029) (by decide +kernel), List.mem_of_getElem? (i := 1030) (by decide +kernel)⟩
theorem lw_p33 : lw_okq (⟨"WallHandsModel", "handNow", "(II)I"⟩, 45) := ⟨⟨by decide +kernel, by decide +kernel⟩, List.mem_of_getElem? (i := 744) (by decide +kernel), List.mem_of_getElem? (i := 1033) (by decide +kernel), List.mem_of_getElem? (i := 1034) (by decide +kernel)⟩
theorem lw_p34 : lw_okq (⟨"WallHandsModel", "holds", "(II)I"⟩, 45) := ⟨⟨by decide +kernel, by decide +kernel⟩, List.mem_of_getElem? (i := 744) (by decide +kernel), List.mem_of_getElem? (i := 1037) (by decide +kernel), List.mem_of_getElem? (i := 1038) (by decide +kernel)⟩
theorem lw_p35 : lw_okq (⟨"WallHandsModel", "alike", "(II)I"⟩, 45) := ⟨⟨by decide +kernel, by decide +kernel⟩, List.mem_of_getElem? (i := 744) (by decide +kernel), List.mem_of_getElem? (i := 1041) (by decide +kernel), List.mem_of_getElem? (i := 1042) (by decide +kernel)⟩
theorem lw_p36 : lw_okq (⟨"WallHandsModel", "unlike", "(II)I"⟩, 45) := ⟨⟨by decide +kernel, by decide +kernel⟩, List.mem_of_getElem? (i := 744) (by decide +kernel), List.mem_of_getElem? (i := 1045) (by decide +kernel), List.mem_of_getElem? (i := 1046) (by decide +kernel)⟩
theorem lw_p37 : lw_okq (⟨"WallHandsModel", "loves", "(II)Z"⟩, 45) := ⟨⟨by decide +kernel, by decide +kernel⟩, List.mem_of_getElem? (i := 744) (by decide +kernel), List.mem_of_getElem? (i := 1049) (by decide +kernel), List.mem_of_getElem? (i := 1050) (by decide +kernel)⟩
theorem lw_p38 : lw_okq (⟨"WallHandsModel", "isLover", "(I)Z"⟩, 45) := ⟨⟨by decide +kernel, by decide +kernel⟩, List.mem_of_getElem? (i := 744) (by decide +kernel), List.mem_of_getElem? (i := 1053) (by decide +kernel), List.mem_of_getElem? (i := 1054) (by decide +kernel)⟩
theorem lw_p39 : lw_okq (⟨"WallHandsModel", "drops", "(I)V"⟩, 45) := ⟨⟨by decide +kernel, by decide +kernel⟩, List.mem_of_getElem? (i := 744) (by decide +kernel), List.mem_of_getElem? (i := 1057) (by decide +kernel), List.mem_of_getElem? (i := 1058) (by decide +kernel)⟩
theorem lw_p40 : lw_okq (⟨"WallHandsModel", "settles", "()V"⟩, 45) := ⟨⟨by decide +kernel, by decide +kernel⟩, List.mem_of_getElem? (i := 744) (by decide +kernel), List.mem_of_getElem? (i := 1061) (by decide +kernel), List.mem_of_getElem? (i := 1062) (by decide +kernel)⟩
theorem lw_p41 : lw_okq (⟨"WallHandsModel", "isBorne", "(II)Z"⟩, 45) := ⟨⟨by decide +kernel, by decide +kernel⟩, List.mem_of_getElem? (i := 744) (by decide +kernel), List.mem_of_getElem? (i := 1065) (by decide +kernel), List.mem_of_getElem? (i := 1066) (by decide +kernel)⟩
theorem lw_p42 : lw_okq (⟨"WallHandsModel", "mends", "(II)V"⟩, 45) := ⟨⟨by decide +kernel, by decide +kernel⟩, List.mem_of_getElem? (i := 744) (by decide +kernel), List.mem_of_getElem? (i := 1069) (by decide +kernel), List.mem_of_getElem? (i := 1070) (by decide +kernel)⟩
theorem lw_p43 : lw_okq (⟨"WallHandsModel", "keeps", "(I)V"⟩, 45) := ⟨⟨by decide +kernel, by decide +kernel⟩, List.mem_of_getElem? (i := 744) (by decide +kernel), List.mem_of_getElem? (i := 1073) (by decide +kernel), List.mem_of_getElem? (i := 1074) (by decide +kernel)⟩
theorem lw_p44 : lw_okq (⟨"WallHandsModel", "isThrough", "(II)Z"⟩, 45) := ⟨⟨by decide +kernel, by decide +kernel⟩, List.mem_of_getElem? (i := 744) (by decide +kernel), List.mem_of_getElem? (i := 1077) (by decide +kernel), List.mem_of_getElem? (i := 1078) (by decide +kernel)⟩
theorem lw_p45 : lw_okq (⟨"WallHandsModel", "isColumn", "(I)Z"⟩, 45) := ⟨⟨by decide +kernel, by decide +kernel⟩, List.mem_of_getElem? (i := 744) (by decide +kernel), List.mem_of_getElem? (i := 1085) (by decide +kernel), List.mem_of_getElem? (i := 1086) (by decide +kernel)⟩
theorem lw_p46 : lw_okq (⟨"WallHandsModel", "columnOf", "(III)I"⟩, 45) := ⟨⟨by decide +kernel, by decide +kernel⟩, List.mem_of_getElem? (i := 744) (by decide +kernel), List.mem_of_getElem? (i := 1089) (by decide +kernel), List.mem_of_getElem? (i := 1090) (by decide +kernel)⟩
theorem lw_p47 : lw_okq (⟨"WallHandsModel", "fallsOf", "(I)I"⟩, 45) := ⟨⟨by decide +kernel, by decide +kernel⟩, List.mem_of_getElem? (i := 744) (by decide +kernel), List.mem_of_getElem? (i := 1097) (by decide +kernel), List.mem_of_getElem? (i := 1098) (by decide +kernel)⟩
def lw_privs_3 : List (MethodName × Nat) := [(⟨"WallHandsModel", "holdAll", "()V"⟩, 45), (⟨"WallHandsModel", "handNow", "(II)I"⟩, 45), (⟨"WallHandsModel", "holds", "(II)I"⟩, 45), (⟨"WallHandsModel", "alike", "(II)I"⟩, 45), (⟨"WallHandsModel", "unlike", "(II)I"⟩, 45), (⟨"WallHandsModel", "loves", "(II)Z"⟩, 45), (⟨"WallHandsModel", "isLover", "(I)Z"⟩, 45), (⟨"WallHandsModel", "drops", "(I)V"⟩, 45), (⟨"WallHandsModel", "settles", "()V"⟩, 45), (⟨"WallHandsModel", "isBorne", "(II)Z"⟩, 45), (⟨"WallHandsModel", "mends", "(II)V"⟩, 45), (⟨"WallHandsModel", "keeps", "(I)V"⟩, 45), (⟨"WallHandsModel", "isThrough", "(II)Z"⟩, 45), (⟨"WallHandsModel", "isColumn", "(I)Z"⟩, 45), (⟨"WallHandsModel", "columnOf", "(III)I"⟩, 45), (⟨"WallHandsModel", "fallsOf", "(I)I"⟩, 45)]
theorem lw_r3 : ∀ q ∈ lw_privs_3, lw_okq q := List.forall_mem_cons.mpr ⟨lw_p32, List.forall_mem_cons.mpr ⟨lw_p33, List.forall_mem_cons.mpr ⟨lw_p34, List.forall_mem_cons.mpr ⟨lw_p35, List.forall_mem_cons.mpr ⟨lw_p36, List.forall_mem_cons.mpr ⟨lw_p37, List.forall_mem_cons.mpr ⟨lw_p38, List.forall_mem_cons.mpr ⟨lw_p39, List.forall_mem_cons.mpr ⟨lw_p40, List.forall_mem_cons.mpr ⟨lw_p41, List.forall_mem_cons.mpr ⟨lw_p42, List.forall_mem_cons.mpr ⟨lw_p43, List.forall_mem_cons.mpr ⟨lw_p44, List.forall_mem_cons.mpr ⟨lw_p45, List.forall_mem_cons.mpr ⟨lw_p46, List.forall_mem_cons.mpr ⟨lw_p47, fun _ h => absurd h List.not_mem_nil⟩⟩⟩⟩⟩⟩⟩⟩⟩⟩⟩⟩⟩⟩⟩⟩
theorem lw_p48 : lw_okq (⟨"WallHandsModel", "sheepOf", "(I)I"⟩, 45) := ⟨⟨by decide +kernel, by decide +kernel⟩, List.mem_of_getElem? (i := 744) (by decide +kernel), List.mem_of_getElem? (i := 1105) (by decide +kernel), List.mem_of_getElem? (i := 1106) (by decide +kernel)⟩
theorem lw_p49 : lw_okq (⟨"WallHandsModel", "mineOf", "(I)I"⟩, 45) := ⟨⟨by decide +kernel, by decide +kernel⟩, List.mem_of_getElem? (i := 744) (by decide +kernel), List.mem_of_getElem? (i := 1113) (by decide +kernel), List.mem_of_getElem? (i := 1114) (by decide +kernel)⟩
theorem lw_p50 : lw_okq (⟨"WallHandsModel", "mineNow", "(I)I"⟩, 45) := ⟨⟨by decide +kernel, by decide +kernel⟩, List.mem_of_getElem? (i := 744) (by decide +kernel), List.mem_of_getElem? (i := 1117) (by decide +kernel), List.mem_of_getElem? (i := 1118) (by decide +kernel)⟩
theorem lw_p51 : lw_okq (⟨"WallHandsModel", "bestNow", "()I"⟩, 45) := ⟨⟨by decide +kernel, by decide +kernel⟩, List.mem_of_getElem? (i := 744) (by decide +kernel), List.mem_of_getElem? (i := 1125) (by decide +kernel), List.mem_of_getElem? (i := 1126) (by decide +kernel)⟩
theorem lw_p52 : lw_okq (⟨"WallHandsModel", "mendOf", "(II)I"⟩, 45) := ⟨⟨by decide +kernel, by decide +kernel⟩, List.mem_of_getElem? (i := 744) (by decide +kernel), List.mem_of_getElem? (i := 1133) (by decide +kernel), List.mem_of_getElem? (i := 1134) (by decide +kernel)⟩
theorem lw_p53 : lw_okq (⟨"WallHandsModel", "firmOf", "(I)I"⟩, 45) := ⟨⟨by decide +kernel, by decide +kernel⟩, List.mem_of_getElem? (i := 744) (by decide +kernel), List.mem_of_getElem? (i := 1141) (by decide +kernel), List.mem_of_getElem? (i := 1142) (by decide +kernel)⟩
theorem lw_p54 : lw_okq (⟨"WallHandsModel", "relayOf", "(II)I"⟩, 45) := ⟨⟨by decide +kernel, by decide +kernel⟩, List.mem_of_getElem? (i := 744) (by decide +kernel), List.mem_of_getElem? (i := 1149) (by decide +kernel), List.mem_of_getElem? (i := 1150) (by decide +kernel)⟩
theorem lw_p55 : lw_okq (⟨"WallHandsModel", "liftOf", "(I)I"⟩, 45) := ⟨⟨by decide +kernel, by decide +kernel⟩, List.mem_of_getElem? (i := 744) (by decide +kernel), List.mem_of_getElem? (i := 1157) (by decide +kernel), List.mem_of_getElem? (i := 1158) (by decide +kernel)⟩
theorem lw_p56 : lw_okq (⟨"WallHandsModel", "loose", "(I)I"⟩, 45) := ⟨⟨by decide +kernel, by decide +kernel⟩, List.mem_of_getElem? (i := 744) (by decide +kernel), List.mem_of_getElem? (i := 1161) (by decide +kernel), List.mem_of_getElem? (i := 1162) (by decide +kernel)⟩
theorem lw_p57 : lw_okq (⟨"WallHandsModel", "neverNow", "()I"⟩, 45) := ⟨⟨by decide +kernel, by decide +kernel⟩, List.mem_of_getElem? (i := 744) (by decide +kernel), List.mem_of_getElem? (i := 1177) (by decide +kernel), List.mem_of_getElem? (i := 1178) (by decide +kernel)⟩
theorem lw_p58 : lw_okq (⟨"WallHandsModel", "isSeen", "()Z"⟩, 45) := ⟨⟨by decide +kernel, by decide +kernel⟩, List.mem_of_getElem? (i := 744) (by decide +kernel), List.mem_of_getElem? (i := 1181) (by decide +kernel), List.mem_of_getElem? (i := 1182) (by decide +kernel)⟩
theorem lw_p59 : lw_okq (⟨"WallHandsModel", "strongBy", "(I)I"⟩, 45) := ⟨⟨by decide +kernel, by decide +kernel⟩, List.mem_of_getElem? (i := 744) (by decide +kernel), List.mem_of_getElem? (i := 1189) (by decide +kernel), List.mem_of_getElem? (i := 1190) (by decide +kernel)⟩
theorem lw_p60 : lw_okq (⟨"WallHandsModel", "moodBy", "(I)I"⟩, 45) := ⟨⟨by decide +kernel, by decide +kernel⟩, List.mem_of_getElem? (i := 744) (by decide +kernel), List.mem_of_getElem? (i := 1193) (by decide +kernel), List.mem_of_getElem? (i := 1194) (by decide +kernel)⟩
theorem lw_p61 : lw_okq (⟨"WallHandsModel", "askOf", "(I)I"⟩, 45) := ⟨⟨by decide +kernel, by decide +kernel⟩, List.mem_of_getElem? (i := 744) (by decide +kernel), List.mem_of_getElem? (i := 1201) (by decide +kernel), List.mem_of_getElem? (i := 1202) (by decide +kernel)⟩
theorem lw_p62 : lw_okq (⟨"WallHandsModel", "luckOf", "(II)J"⟩, 45) := ⟨⟨by decide +kernel, by decide +kernel⟩, List.mem_of_getElem? (i := 744) (by decide +kernel), List.mem_of_getElem? (i := 1209) (by decide +kernel), List.mem_of_getElem? (i := 1210) (by decide +kernel)⟩
theorem lw_p63 : lw_okq (⟨"WallHandsModel", "agesOf", "(III)I"⟩, 45) := ⟨⟨by decide +kernel, by decide +kernel⟩, List.mem_of_getElem? (i := 744) (by decide +kernel), List.mem_of_getElem? (i := 1224) (by decide +kernel), List.mem_of_getElem? (i := 1225) (by decide +kernel)⟩
def lw_privs_4 : List (MethodName × Nat) := [(⟨"WallHandsModel", "sheepOf", "(I)I"⟩, 45), (⟨"WallHandsModel", "mineOf", "(I)I"⟩, 45), (⟨"WallHandsModel", "mineNow", "(I)I"⟩, 45), (⟨"WallHandsModel", "bestNow", "()I"⟩, 45), (⟨"WallHandsModel", "mendOf", "(II)I"⟩, 45), (⟨"WallHandsModel", "firmOf", "(I)I"⟩, 45), (⟨"WallHandsModel", "relayOf", "(II)I"⟩, 45), (⟨"WallHandsModel", "liftOf", "(I)I"⟩, 45), (⟨"WallHandsModel", "loose", "(I)I"⟩, 45), (⟨"WallHandsModel", "neverNow", "()I"⟩, 45), (⟨"WallHandsModel", "isSeen", "()Z"⟩, 45), (⟨"WallHandsModel", "strongBy", "(I)I"⟩, 45), (⟨"WallHandsModel", "moodBy", "(I)I"⟩, 45), (⟨"WallHandsModel", "askOf", "(I)I"⟩, 45), (⟨"WallHandsModel", "luckOf", "(II)J"⟩, 45), (⟨"WallHandsModel", "agesOf", "(III)I"⟩, 45)]
theorem lw_r4 : ∀ q ∈ lw_privs_4, lw_okq q := List.forall_mem_cons.mpr ⟨lw_p48, List.forall_mem_cons.mpr ⟨lw_p49, List.forall_mem_cons.mpr ⟨lw_p50, List.forall_mem_cons.mpr ⟨lw_p51, List.forall_mem_cons.mpr ⟨lw_p52, List.forall_mem_cons.mpr ⟨lw_p53, List.forall_mem_cons.mpr ⟨lw_p54, List.forall_mem_cons.mpr ⟨lw_p55, List.forall_mem_cons.mpr ⟨lw_p56, List.forall_mem_cons.mpr ⟨lw_p57, List.forall_mem_cons.mpr ⟨lw_p58, List.forall_mem_cons.mpr ⟨lw_p59, List.forall_mem_cons.mpr ⟨lw_p60, List.forall_mem_cons.mpr ⟨lw_p61, List.forall_mem_cons.mpr ⟨lw_p62, List.forall_mem_cons.mpr ⟨lw_p63, fun _ h => absurd h List.not_mem_nil⟩⟩⟩⟩⟩⟩⟩⟩⟩⟩⟩⟩⟩⟩⟩⟩
theorem lw_p64 : lw_okq (⟨"WallHandsModel", "lacks", "(III)I"⟩, 45) := ⟨⟨by decide +kernel, by decide +kernel⟩, List.mem_of_getElem? (i := 744) (by decide +kernel), List.mem_of_getElem? (i := 1241) (by decide +kernel), List.mem_of_getElem? (i := 1242) (by decide +kernel)⟩
theorem lw_p65 : lw_okq (⟨"WallHandsModel", "keep", "(III)V"⟩, 45) := ⟨⟨by decide +kernel, by decide +kernel⟩, List.mem_of_getElem? (i := 744) (by decide +kernel), List.mem_of_getElem? (i := 1245) (by decide +kernel), List.mem_of_getElem? (i := 1246) (by decide +kernel)⟩
theorem lw_p66 : lw_okq (⟨"WallHandsModel", "sumOf", "(I)I"⟩, 45) := ⟨⟨by decide +kernel, by decide +kernel⟩, List.mem_of_getElem? (i := 744) (by decide +kernel), List.mem_of_getElem? (i := 1266) (by decide +kernel), List.mem_of_getElem? (i := 1267) (by decide +kernel)⟩
theorem lw_p67 : lw_okq (⟨"WallHandsModel", "placeDigest", "(JI)J"⟩, 45) := ⟨⟨by decide +kernel, by decide +kernel⟩, List.mem_of_getElem? (i := 744) (by decide +kernel), List.mem_of_getElem? (i := 1277) (by decide +kernel), List.mem_of_getElem? (i := 1278) (by decide +kernel)⟩
theorem lw_p68 : lw_okq (⟨"WallHandsModel", "handDigest", "(JI)J"⟩, 45) := ⟨⟨by decide +kernel, by decide +kernel⟩, List.mem_of_getElem? (i := 744) (by decide +kernel), List.mem_of_getElem? (i := 1281) (by decide +kernel), List.mem_of_getElem? (i := 1282) (by decide +kernel)⟩
def lw_privs_5 : List (MethodName × Nat) := [(⟨"WallHandsModel", "lacks", "(III)I"⟩, 45), (⟨"WallHandsModel", "keep", "(III)V"⟩, 45), (⟨"WallHandsModel", "sumOf", "(I)I"⟩, 45), (⟨"WallHandsModel", "placeDigest", "(JI)J"⟩, 45), (⟨"WallHandsModel", "handDigest", "(JI)J"⟩, 45)]
theorem lw_r5 : ∀ q ∈ lw_privs_5, lw_okq q := List.forall_mem_cons.mpr ⟨lw_p64, List.forall_mem_cons.mpr ⟨lw_p65, List.forall_mem_cons.mpr ⟨lw_p66, List.forall_mem_cons.mpr ⟨lw_p67, List.forall_mem_cons.mpr ⟨lw_p68, fun _ h => absurd h List.not_mem_nil⟩⟩⟩⟩⟩
def lw_privs : List (MethodName × Nat) := lw_privs_1 ++ (lw_privs_2 ++ (lw_privs_3 ++ (lw_privs_4 ++ (lw_privs_5))))
def lw_tbl : List Cond := k2_sels lw_privs ++ tables_1
theorem lw_privs_ok : ∀ q ∈ lw_privs, lw_okq q := by
  show ∀ q ∈ lw_privs_1 ++ (lw_privs_2 ++ (lw_privs_3 ++ (lw_privs_4 ++ (lw_privs_5)))), lw_okq q
  exact List.forall_mem_append.mpr ⟨lw_r1, List.forall_mem_append.mpr ⟨lw_r2, List.forall_mem_append.mpr ⟨lw_r3, List.forall_mem_append.mpr ⟨lw_r4, lw_r5⟩⟩⟩⟩
end
section
def RX0 : String := "WallHands$Frosts"
def TX0 : u_T := fun k => match k with
  | 0 => ("WallHands$Frosts", "year", "[I", true)
  | 1 => ("WallHands$Frosts", "force", "[I", true)
  | _ => ("WallHands$Frosts", "told", "I", false)
def tyX0 : Nat → FieldType := fun k => match k with
  | 0 => .array .int
  | 1 => .array .int
  | _ => .int
abbrev wsX00 : List Cond := u_ws RX0 TX0 3
theorem nmX0 : ∀ a, a < 3 → ∀ b, b < 3 → a ≠ b → (TX0 a).2.1 ≠ (TX0 b).2.1 := by decide +kernel
theorem tyX0_ok : ∀ k, k < 3 → parseFieldDescriptor (TX0 k).2.2.1 = some (tyX0 k) := by decide +kernel
abbrev cX0_init : ByteArray := prog_2_method_1_code
def yX0_init : MethodName := ⟨RX0, "<init>", "()V"⟩
abbrev cX0_mayBe : ByteArray := prog_2_method_2_code
def yX0_mayBe : MethodName := ⟨RX0, "mayBe", "(II)Z"⟩
abbrev cX0_add : ByteArray := prog_2_method_3_code
def yX0_add : MethodName := ⟨RX0, "add", "(II)V"⟩
def RX1 : String := "WallHands$Gappings"
def TX1 : u_T := fun k => match k with
  | 0 => ("WallHands$Gappings", "year", "[I", true)
  | 1 => ("WallHands$Gappings", "column", "[I", true)
  | 2 => ("WallHands$Gappings", "hand", "[I", true)
  | _ => ("WallHands$Gappings", "told", "I", false)
def tyX1 : Nat → FieldType := fun k => match k with
  | 0 => .array .int
  | 1 => .array .int
  | 2 => .array .int
  | _ => .int
abbrev wsX10 : List Cond := u_ws RX1 TX1 4
theorem nmX1 : ∀ a, a < 4 → ∀ b, b < 4 → a ≠ b → (TX1 a).2.1 ≠ (TX1 b).2.1 := by decide +kernel
theorem tyX1_ok : ∀ k, k < 4 → parseFieldDescriptor (TX1 k).2.2.1 = some (tyX1 k) := by decide +kernel
abbrev cX1_init : ByteArray := prog_3_method_1_code
def yX1_init : MethodName := ⟨RX1, "<init>", "()V"⟩
abbrev cX1_add : ByteArray := prog_3_method_2_code
def yX1_add : MethodName := ⟨RX1, "add", "(III)V"⟩
def RX2 : String := "WallHands$Hands"
def TX2 : u_T := fun k => match k with
  | 0 => ("WallHands$Hands", "mood", "[I", true)
  | 1 => ("WallHands$Hands", "strong", "[I", true)
  | 2 => ("WallHands$Hands", "told", "I", false)
  | _ => ("WallHands$Hands", "fault", "I", false)
def tyX2 : Nat → FieldType := fun k => match k with
  | 0 => .array .int
  | 1 => .array .int
  | 2 => .int
  | _ => .int
abbrev wsX20 : List Cond := u_ws RX2 TX2 4
theorem nmX2 : ∀ a, a < 4 → ∀ b, b < 4 → a ≠ b → (TX2 a).2.1 ≠ (TX2 b).2.1 := by decide +kernel
theorem tyX2_ok : ∀ k, k < 4 → parseFieldDescriptor (TX2 k).2.2.1 = some (tyX2 k) := by decide +kernel
abbrev cX2_init : ByteArray := prog_4_method_1_code
def yX2_init : MethodName := ⟨RX2, "<init>", "()V"⟩
abbrev cX2_has : ByteArray := prog_4_method_2_code
def yX2_has : MethodName := ⟨RX2, "has", "(I)Z"⟩
abbrev cX2_tell : ByteArray := prog_4_method_3_code
def yX2_tell : MethodName := ⟨RX2, "tell", "(LWallHands$Text;)V"⟩
abbrev cX2_firstFault : ByteArray := prog_4_method_4_code
def yX2_firstFault : MethodName := ⟨RX2, "firstFault", "(LWallHands$Text;)I"⟩
def RX3 : String := "WallHands$Sheet"
def TX3 : u_T := fun k => match k with
  | 0 => ("WallHands$Sheet", "items", "[I", true)
  | 1 => ("WallHands$Sheet", "form", "I", false)
  | _ => ("WallHands$Sheet", "size", "I", false)
def tyX3 : Nat → FieldType := fun k => match k with
  | 0 => .array .int
  | 1 => .int
  | _ => .int
abbrev wsX30 : List Cond := u_ws RX3 TX3 3
theorem nmX3 : ∀ a, a < 3 → ∀ b, b < 3 → a ≠ b → (TX3 a).2.1 ≠ (TX3 b).2.1 := by decide +kernel
theorem tyX3_ok : ∀ k, k < 3 → parseFieldDescriptor (TX3 k).2.2.1 = some (tyX3 k) := by decide +kernel
abbrev cX3_init : ByteArray := prog_5_method_1_code
def yX3_init : MethodName := ⟨RX3, "<init>", "()V"⟩
abbrev cX3_findingAt : ByteArray := prog_5_method_2_code
def yX3_findingAt : MethodName := ⟨RX3, "findingAt", "(II)I"⟩
abbrev cX3_hasItems : ByteArray := prog_5_method_3_code
def yX3_hasItems : MethodName := ⟨RX3, "hasItems", "(II)Z"⟩
def RX4 : String := "WallHands$Sights"
def TX4 : u_T := fun k => match k with
  | 0 => ("WallHands$Sights", "year", "[I", true)
  | 1 => ("WallHands$Sights", "place", "[I", true)
  | 2 => ("WallHands$Sights", "setter", "[I", true)
  | _ => ("WallHands$Sights", "told", "I", false)
def tyX4 : Nat → FieldType := fun k => match k with
  | 0 => .array .int
  | 1 => .array .int
  | 2 => .array .int
  | _ => .int
abbrev wsX40 : List Cond := u_ws RX4 TX4 4
theorem nmX4 : ∀ a, a < 4 → ∀ b, b < 4 → a ≠ b → (TX4 a).2.1 ≠ (TX4 b).2.1 := by decide +kernel
theorem tyX4_ok : ∀ k, k < 4 → parseFieldDescriptor (TX4 k).2.2.1 = some (tyX4 k) := by decide +kernel
abbrev cX4_init : ByteArray := prog_6_method_1_code
def yX4_init : MethodName := ⟨RX4, "<init>", "()V"⟩
abbrev cX4_add : ByteArray := prog_6_method_2_code
def yX4_add : MethodName := ⟨RX4, "add", "(III)V"⟩
abbrev cX4_comeOutIn : ByteArray := prog_6_method_3_code
def yX4_comeOutIn : MethodName := ⟨RX4, "comeOutIn", "(LWallHands$Years;)Z"⟩
def RX5 : String := "WallHands$Text"
def TX5 : u_T := fun k => match k with
  | 0 => ("WallHands$Text", "bytes", "[I", true)
  | _ => ("WallHands$Text", "length", "I", false)
def tyX5 : Nat → FieldType := fun k => match k with
  | 0 => .array .int
  | _ => .int
abbrev wsX50 : List Cond := u_ws RX5 TX5 2
theorem nmX5 : ∀ a, a < 2 → ∀ b, b < 2 → a ≠ b → (TX5 a).2.1 ≠ (TX5 b).2.1 := by decide +kernel
theorem tyX5_ok : ∀ k, k < 2 → parseFieldDescriptor (TX5 k).2.2.1 = some (tyX5 k) := by decide +kernel
abbrev cX5_init : ByteArray := prog_7_method_1_code
def yX5_init : MethodName := ⟨RX5, "<init>", "(I)V"⟩
def RX6 : String := "WallHands$Wall"
def TX6 : u_T := fun k => match k with
  | 0 => ("WallHands$Wall", "stones", "[J", true)
  | 1 => ("WallHands$Wall", "courses", "I", false)
  | 2 => ("WallHands$Wall", "columns", "I", false)
  | 3 => ("WallHands$Wall", "fault", "I", false)
  | _ => ("WallHands$Wall", "jump", "I", false)
def tyX6 : Nat → FieldType := fun k => match k with
  | 0 => .array .long
  | 1 => .int
  | 2 => .int
  | 3 => .int
  | _ => .int
abbrev wsX60 : List Cond := u_ws RX6 TX6 5
theorem nmX6 : ∀ a, a < 5 → ∀ b, b < 5 → a ≠ b → (TX6 a).2.1 ≠ (TX6 b).2.1 := by decide +kernel
theorem tyX6_ok : ∀ k, k < 5 → parseFieldDescriptor (TX6 k).2.2.1 = some (tyX6 k) := by decide +kernel
abbrev cX6_init : ByteArray := prog_8_method_1_code
def yX6_init : MethodName := ⟨RX6, "<init>", "()V"⟩
abbrev cX6_tell : ByteArray := prog_8_method_2_code
def yX6_tell : MethodName := ⟨RX6, "tell", "(LWallHands$Text;)V"⟩
abbrev cX6_lay : ByteArray := prog_8_method_3_code
def yX6_lay : MethodName := ⟨RX6, "lay", "(LWallHands$Text;)V"⟩
abbrev cX6_passOn : ByteArray := prog_8_method_4_code
def yX6_passOn : MethodName := ⟨RX6, "passOn", "(III)V"⟩
abbrev cX6_firstFault : ByteArray := prog_8_method_5_code
def yX6_firstFault : MethodName := ⟨RX6, "firstFault", "(LWallHands$Text;)I"⟩
def RX7 : String := "WallHands$Years"
def TX7 : u_T := fun k => match k with
  | 0 => ("WallHands$Years", "wall", "LWallHands$Wall;", true)
  | 1 => ("WallHands$Years", "hands", "LWallHands$Hands;", true)
  | 2 => ("WallHands$Years", "gappings", "LWallHands$Gappings;", true)
  | 3 => ("WallHands$Years", "now", "[J", true)
  | 4 => ("WallHands$Years", "all", "J", false)
  | 5 => ("WallHands$Years", "stones", "[J", true)
  | 6 => ("WallHands$Years", "standing", "[J", true)
  | 7 => ("WallHands$Years", "open", "[I", true)
  | 8 => ("WallHands$Years", "fallen", "[I", true)
  | _ => ("WallHands$Years", "losers", "I", false)
def tyX7 : Nat → FieldType := fun k => match k with
  | 0 => .object "WallHands$Wall"
  | 1 => .object "WallHands$Hands"
  | 2 => .object "WallHands$Gappings"
  | 3 => .array .long
  | 4 => .long
  | 5 => .array .long
  | 6 => .array .long
  | 7 => .array .int
  | 8 => .array .int
  | _ => .int
abbrev wsX70 : List Cond := u_ws RX7 TX7 10
theorem nmX7 : ∀ a, a < 10 → ∀ b, b < 10 → a ≠ b → (TX7 a).2.1 ≠ (TX7 b).2.1 := by decide +kernel
theorem tyX7_ok : ∀ k, k < 10 → parseFieldDescriptor (TX7 k).2.2.1 = some (tyX7 k) := by decide +kernel
abbrev cX7_init : ByteArray := prog_9_method_1_code
def yX7_init : MethodName := ⟨RX7, "<init>", "(LWallHands$Wall;LWallHands$Hands;LWallHands$Gappings;)V"⟩
abbrev cX7_run : ByteArray := prog_9_method_2_code
def yX7_run : MethodName := ⟨RX7, "run", "(LWallHands$Frosts;I)V"⟩
abbrev cX7_freeze : ByteArray := prog_9_method_3_code
def yX7_freeze : MethodName := ⟨RX7, "freeze", "(LWallHands$Frosts;II)I"⟩
abbrev cX7_leave : ByteArray := prog_9_method_4_code
def yX7_leave : MethodName := ⟨RX7, "leave", "(J)I"⟩
abbrev cX7_holdingOf : ByteArray := prog_9_method_5_code
def yX7_holdingOf : MethodName := ⟨RX7, "holdingOf", "(II)J"⟩
abbrev cX7_nowOf : ByteArray := prog_9_method_6_code
def yX7_nowOf : MethodName := ⟨RX7, "nowOf", "(I)J"⟩
abbrev cX7_fillGaps : ByteArray := prog_9_method_7_code
def yX7_fillGaps : MethodName := ⟨RX7, "fillGaps", "(I)Z"⟩
abbrev cX7_fillGap : ByteArray := prog_9_method_8_code
def yX7_fillGap : MethodName := ⟨RX7, "fillGap", "(II)Z"⟩
abbrev cX7_openColumns : ByteArray := prog_9_method_9_code
def yX7_openColumns : MethodName := ⟨RX7, "openColumns", "()I"⟩
abbrev cX7_setterBehind : ByteArray := prog_9_method_10_code
def yX7_setterBehind : MethodName := ⟨RX7, "setterBehind", "(II)I"⟩
abbrev cX7_holdBehind : ByteArray := prog_9_method_11_code
def yX7_holdBehind : MethodName := ⟨RX7, "holdBehind", "(II)I"⟩
abbrev cX7_highBehind : ByteArray := prog_9_method_12_code
def yX7_highBehind : MethodName := ⟨RX7, "highBehind", "(II)I"⟩
abbrev cX7_lastingOf : ByteArray := prog_9_method_13_code
def yX7_lastingOf : MethodName := ⟨RX7, "lastingOf", "(I)I"⟩
abbrev cX7_firstOpenYear : ByteArray := prog_9_method_14_code
def yX7_firstOpenYear : MethodName := ⟨RX7, "firstOpenYear", "()I"⟩
abbrev cX7_openYears : ByteArray := prog_9_method_15_code
def yX7_openYears : MethodName := ⟨RX7, "openYears", "()I"⟩
abbrev cX7_allFallen : ByteArray := prog_9_method_16_code
def yX7_allFallen : MethodName := ⟨RX7, "allFallen", "()I"⟩
abbrev cX7_tallyInto : ByteArray := prog_9_method_17_code
def yX7_tallyInto : MethodName := ⟨RX7, "tallyInto", "([II)V"⟩
def RX8 : String := "WallHands"
def TX8 : u_T := fun k => match k with
  | 0 => ("WallHands", "wallText", "LWallHands$Text;", true)
  | 1 => ("WallHands", "handsText", "LWallHands$Text;", true)
  | 2 => ("WallHands", "wall", "LWallHands$Wall;", true)
  | 3 => ("WallHands", "hands", "LWallHands$Hands;", true)
  | 4 => ("WallHands", "frosts", "LWallHands$Frosts;", true)
  | 5 => ("WallHands", "chanceFrosts", "LWallHands$Frosts;", true)
  | 6 => ("WallHands", "gappings", "LWallHands$Gappings;", true)
  | 7 => ("WallHands", "sights", "LWallHands$Sights;", true)
  | 8 => ("WallHands", "sheets", "[LWallHands$Sheet;", true)
  | 9 => ("WallHands", "told", "LWallHands$Years;", true)
  | 10 => ("WallHands", "trial", "LWallHands$Years;", true)
  | 11 => ("WallHands", "stood", "[I", true)
  | 12 => ("WallHands", "toldIsStale", "Z", false)
  | _ => ("WallHands", "latestFinding", "I", false)
def tyX8 : Nat → FieldType := fun k => match k with
  | 0 => .object "WallHands$Text"
  | 1 => .object "WallHands$Text"
  | 2 => .object "WallHands$Wall"
  | 3 => .object "WallHands$Hands"
  | 4 => .object "WallHands$Frosts"
  | 5 => .object "WallHands$Frosts"
  | 6 => .object "WallHands$Gappings"
  | 7 => .object "WallHands$Sights"
  | 8 => .array (.object "WallHands$Sheet")
  | 9 => .object "WallHands$Years"
  | 10 => .object "WallHands$Years"
  | 11 => .array .int
  | 12 => .boolean
  | _ => .int
abbrev wsX80 : List Cond := u_ws RX8 TX8 14
theorem nmX8 : ∀ a, a < 14 → ∀ b, b < 14 → a ≠ b → (TX8 a).2.1 ≠ (TX8 b).2.1 := by decide +kernel
theorem tyX8_ok : ∀ k, k < 14 → parseFieldDescriptor (TX8 k).2.2.1 = some (tyX8 k) := by decide +kernel
abbrev cX8_init : ByteArray := prog_1_method_1_code
def yX8_init : MethodName := ⟨RX8, "<init>", "()V"⟩
abbrev cX8_type : ByteArray := prog_1_method_2_code
def yX8_type : MethodName := ⟨RX8, "type", "(II)I"⟩
abbrev cX8_wipe : ByteArray := prog_1_method_3_code
def yX8_wipe : MethodName := ⟨RX8, "wipe", "(I)I"⟩
abbrev cX8_undo : ByteArray := prog_1_method_4_code
def yX8_undo : MethodName := ⟨RX8, "undo", "(I)I"⟩
abbrev cX8_fault : ByteArray := prog_1_method_5_code
def yX8_fault : MethodName := ⟨RX8, "fault", "(I)I"⟩
abbrev cX8_stone : ByteArray := prog_1_method_6_code
def yX8_stone : MethodName := ⟨RX8, "stone", "(II)I"⟩
abbrev cX8_hand : ByteArray := prog_1_method_7_code
def yX8_hand : MethodName := ⟨RX8, "hand", "(II)I"⟩
abbrev cX8_jump : ByteArray := prog_1_method_8_code
def yX8_jump : MethodName := ⟨RX8, "jump", "(I)I"⟩
abbrev cX8_frost : ByteArray := prog_1_method_9_code
def yX8_frost : MethodName := ⟨RX8, "frost", "(II)I"⟩
abbrev cX8_gapping : ByteArray := prog_1_method_10_code
def yX8_gapping : MethodName := ⟨RX8, "gapping", "(III)I"⟩
abbrev cX8_back : ByteArray := prog_1_method_11_code
def yX8_back : MethodName := ⟨RX8, "back", "(I)I"⟩
abbrev cX8_read : ByteArray := prog_1_method_12_code
def yX8_read : MethodName := ⟨RX8, "read", "(I)I"⟩
abbrev cX8_at : ByteArray := prog_1_method_13_code
def yX8_at : MethodName := ⟨RX8, "at", "(IIII)I"⟩
abbrev cX8_column : ByteArray := prog_1_method_14_code
def yX8_column : MethodName := ⟨RX8, "column", "(III)I"⟩
abbrev cX8_falls : ByteArray := prog_1_method_15_code
def yX8_falls : MethodName := ⟨RX8, "falls", "(I)I"⟩
abbrev cX8_sheep : ByteArray := prog_1_method_16_code
def yX8_sheep : MethodName := ⟨RX8, "sheep", "(I)I"⟩
abbrev cX8_mine : ByteArray := prog_1_method_17_code
def yX8_mine : MethodName := ⟨RX8, "mine", "(I)I"⟩
abbrev cX8_best : ByteArray := prog_1_method_18_code
def yX8_best : MethodName := ⟨RX8, "best", "()I"⟩
abbrev cX8_mend : ByteArray := prog_1_method_19_code
def yX8_mend : MethodName := ⟨RX8, "mend", "(II)I"⟩
abbrev cX8_firm : ByteArray := prog_1_method_20_code
def yX8_firm : MethodName := ⟨RX8, "firm", "(I)I"⟩
abbrev cX8_relay : ByteArray := prog_1_method_21_code
def yX8_relay : MethodName := ⟨RX8, "relay", "(II)I"⟩
abbrev cX8_lift : ByteArray := prog_1_method_22_code
def yX8_lift : MethodName := ⟨RX8, "lift", "(II)I"⟩
abbrev cX8_seen : ByteArray := prog_1_method_23_code
def yX8_seen : MethodName := ⟨RX8, "seen", "(IIII)I"⟩
abbrev cX8_forget : ByteArray := prog_1_method_24_code
def yX8_forget : MethodName := ⟨RX8, "forget", "()I"⟩
abbrev cX8_never : ByteArray := prog_1_method_25_code
def yX8_never : MethodName := ⟨RX8, "never", "()I"⟩
abbrev cX8_was : ByteArray := prog_1_method_26_code
def yX8_was : MethodName := ⟨RX8, "was", "(II)I"⟩
abbrev cX8_ask : ByteArray := prog_1_method_27_code
def yX8_ask : MethodName := ⟨RX8, "ask", "(I)I"⟩
abbrev cX8_luck : ByteArray := prog_1_method_28_code
def yX8_luck : MethodName := ⟨RX8, "luck", "(II)J"⟩
abbrev cX8_ages : ByteArray := prog_1_method_29_code
def yX8_ages : MethodName := ⟨RX8, "ages", "(III)I"⟩
abbrev cX8_sheet : ByteArray := prog_1_method_30_code
def yX8_sheet : MethodName := ⟨RX8, "sheet", "(III)I"⟩
abbrev cX8_lose : ByteArray := prog_1_method_31_code
def yX8_lose : MethodName := ⟨RX8, "lose", "(I)I"⟩
abbrev cX8_put : ByteArray := prog_1_method_32_code
def yX8_put : MethodName := ⟨RX8, "put", "(IIII)I"⟩
abbrev cX8_get : ByteArray := prog_1_method_33_code
def yX8_get : MethodName := ⟨RX8, "get", "(III)I"⟩
abbrev cX8_copy : ByteArray := prog_1_method_34_code
def yX8_copy : MethodName := ⟨RX8, "copy", "(IIIII)I"⟩
abbrev cX8_write : ByteArray := prog_1_method_35_code
def yX8_write : MethodName := ⟨RX8, "write", "(II)I"⟩
abbrev cX8_count : ByteArray := prog_1_method_36_code
def yX8_count : MethodName := ⟨RX8, "count", "(I)I"⟩
abbrev cX8_digest : ByteArray := prog_1_method_37_code
def yX8_digest : MethodName := ⟨RX8, "digest", "()J"⟩
abbrev cX8_textOf : ByteArray := prog_1_method_38_code
def yX8_textOf : MethodName := ⟨RX8, "textOf", "(I)LWallHands$Text;"⟩
abbrev cX8_retell : ByteArray := prog_1_method_39_code
def yX8_retell : MethodName := ⟨RX8, "retell", "(I)V"⟩
abbrev cX8_asTold : ByteArray := prog_1_method_40_code
def yX8_asTold : MethodName := ⟨RX8, "asTold", "()LWallHands$Years;"⟩
abbrev cX8_found : ByteArray := prog_1_method_41_code
def yX8_found : MethodName := ⟨RX8, "found", "(I)I"⟩
abbrev cX8_mostAlike : ByteArray := prog_1_method_42_code
def yX8_mostAlike : MethodName := ⟨RX8, "mostAlike", "(II)I"⟩
abbrev cX8_waysOf : ByteArray := prog_1_method_43_code
def yX8_waysOf : MethodName := ⟨RX8, "waysOf", "(II)J"⟩
abbrev cX8_nextSeed : ByteArray := prog_1_method_44_code
def yX8_nextSeed : MethodName := ⟨RX8, "nextSeed", "(I)I"⟩
abbrev cX8_within : ByteArray := prog_1_method_45_code
def yX8_within : MethodName := ⟨RX8, "within", "(III)Z"⟩
abbrev cX8_isEither : ByteArray := prog_1_method_46_code
def yX8_isEither : MethodName := ⟨RX8, "isEither", "(I)Z"⟩
abbrev cX8_isYear : ByteArray := prog_1_method_47_code
def yX8_isYear : MethodName := ⟨RX8, "isYear", "(I)Z"⟩
abbrev cX8_isPlace : ByteArray := prog_1_method_48_code
def yX8_isPlace : MethodName := ⟨RX8, "isPlace", "(II)Z"⟩
abbrev cX8_isSheet : ByteArray := prog_1_method_49_code
def yX8_isSheet : MethodName := ⟨RX8, "isSheet", "(I)Z"⟩
abbrev cX8_isForm : ByteArray := prog_1_method_50_code
def yX8_isForm : MethodName := ⟨RX8, "isForm", "(I)Z"⟩
abbrev cX8_isAt : ByteArray := prog_1_method_51_code
def yX8_isAt : MethodName := ⟨RX8, "isAt", "(JI)Z"⟩
abbrev cX8_setterAt : ByteArray := prog_1_method_52_code
def yX8_setterAt : MethodName := ⟨RX8, "setterAt", "([JII)I"⟩
abbrev cX8_union : ByteArray := prog_1_method_53_code
def yX8_union : MethodName := ⟨RX8, "union", "([J)J"⟩
abbrev cX8_borneOf : ByteArray := prog_1_method_54_code
def yX8_borneOf : MethodName := ⟨RX8, "borneOf", "(J)J"⟩
abbrev cX8_besideAtLeast : ByteArray := prog_1_method_55_code
def yX8_besideAtLeast : MethodName := ⟨RX8, "besideAtLeast", "(JI)J"⟩
def RX9 : String := "WallHandsModel"
def TX9 : u_T := fun k => match k with
  | 0 => ("WallHandsModel", "typed", "[I", true)
  | 1 => ("WallHandsModel", "texts", "[I", true)
  | 2 => ("WallHandsModel", "courses", "I", false)
  | 3 => ("WallHandsModel", "wide", "I", false)
  | 4 => ("WallHandsModel", "told", "[I", true)
  | 5 => ("WallHandsModel", "hands", "I", false)
  | 6 => ("WallHandsModel", "moods", "[I", true)
  | 7 => ("WallHandsModel", "strongs", "[I", true)
  | 8 => ("WallHandsModel", "jumpTold", "I", false)
  | 9 => ("WallHandsModel", "frosts", "I", false)
  | 10 => ("WallHandsModel", "frostYear", "[I", true)
  | 11 => ("WallHandsModel", "frostForce", "[I", true)
  | 12 => ("WallHandsModel", "gaps", "I", false)
  | 13 => ("WallHandsModel", "gapYear", "[I", true)
  | 14 => ("WallHandsModel", "gapColumn", "[I", true)
  | 15 => ("WallHandsModel", "gapHand", "[I", true)
  | 16 => ("WallHandsModel", "wall", "[I", true)
  | 17 => ("WallHandsModel", "frostsNow", "I", false)
  | 18 => ("WallHandsModel", "yearNow", "[I", true)
  | 19 => ("WallHandsModel", "forceNow", "[I", true)
  | 20 => ("WallHandsModel", "notFrosts", "I", false)
  | 21 => ("WallHandsModel", "gapsNow", "I", false)
  | 22 => ("WallHandsModel", "holdNow", "[I", true)
  | 23 => ("WallHandsModel", "fell", "I", false)
  | 24 => ("WallHandsModel", "fellAll", "I", false)
  | 25 => ("WallHandsModel", "fellOf", "[I", true)
  | 26 => ("WallHandsModel", "handAt", "[I", true)
  | 27 => ("WallHandsModel", "holdAt", "[I", true)
  | 28 => ("WallHandsModel", "fallsAt", "[I", true)
  | 29 => ("WallHandsModel", "standAt", "[I", true)
  | 30 => ("WallHandsModel", "highAt", "[I", true)
  | 31 => ("WallHandsModel", "throughAt", "[Z", true)
  | 32 => ("WallHandsModel", "sheepFirst", "I", false)
  | 33 => ("WallHandsModel", "sheepMany", "I", false)
  | 34 => ("WallHandsModel", "seens", "I", false)
  | 35 => ("WallHandsModel", "seenYear", "[I", true)
  | 36 => ("WallHandsModel", "seenPlace", "[I", true)
  | 37 => ("WallHandsModel", "seenHand", "[I", true)
  | 38 => ("WallHandsModel", "standBy", "[I", true)
  | 39 => ("WallHandsModel", "isThere", "[Z", true)
  | 40 => ("WallHandsModel", "forms", "[I", true)
  | 41 => ("WallHandsModel", "sizes", "[I", true)
  | 42 => ("WallHandsModel", "items", "[I", true)
  | 43 => ("WallHandsModel", "moved", "[I", true)
  | _ => ("WallHandsModel", "finding", "I", false)
def tyX9 : Nat → FieldType := fun k => match k with
  | 0 => .array .int
  | 1 => .array .int
  | 2 => .int
  | 3 => .int
  | 4 => .array .int
  | 5 => .int
  | 6 => .array .int
  | 7 => .array .int
  | 8 => .int
  | 9 => .int
  | 10 => .array .int
  | 11 => .array .int
  | 12 => .int
  | 13 => .array .int
  | 14 => .array .int
  | 15 => .array .int
  | 16 => .array .int
  | 17 => .int
  | 18 => .array .int
  | 19 => .array .int
  | 20 => .int
  | 21 => .int
  | 22 => .array .int
  | 23 => .int
  | 24 => .int
  | 25 => .array .int
  | 26 => .array .int
  | 27 => .array .int
  | 28 => .array .int
  | 29 => .array .int
  | 30 => .array .int
  | 31 => .array .boolean
  | 32 => .int
  | 33 => .int
  | 34 => .int
  | 35 => .array .int
  | 36 => .array .int
  | 37 => .array .int
  | 38 => .array .int
  | 39 => .array .boolean
  | 40 => .array .int
  | 41 => .array .int
  | 42 => .array .int
  | 43 => .array .int
  | _ => .int
abbrev wsX90 : List Cond := u_ws RX9 TX9 45
theorem nmX9 : ∀ a, a < 45 → ∀ b, b < 45 → a ≠ b → (TX9 a).2.1 ≠ (TX9 b).2.1 := by decide +kernel
theorem tyX9_ok : ∀ k, k < 45 → parseFieldDescriptor (TX9 k).2.2.1 = some (tyX9 k) := by decide +kernel
abbrev cX9_init : ByteArray := prog_11_method_1_code
def yX9_init : MethodName := ⟨RX9, "<init>", "()V"⟩
abbrev cX9_in : ByteArray := prog_11_method_3_code
def yX9_in : MethodName := ⟨RX9, "in", "(III)Z"⟩
abbrev cX9_isIn : ByteArray := prog_11_method_4_code
def yX9_isIn : MethodName := ⟨RX9, "isIn", "(II)Z"⟩
abbrev cX9_no : ByteArray := prog_11_method_5_code
def yX9_no : MethodName := ⟨RX9, "no", "(I)J"⟩
abbrev cX9_lowest : ByteArray := prog_11_method_6_code
def yX9_lowest : MethodName := ⟨RX9, "lowest", "(JJI)J"⟩
abbrev cX9_isText : ByteArray := prog_11_method_7_code
def yX9_isText : MethodName := ⟨RX9, "isText", "(I)Z"⟩
abbrev cX9_isYear : ByteArray := prog_11_method_8_code
def yX9_isYear : MethodName := ⟨RX9, "isYear", "(I)Z"⟩
abbrev cX9_isEight : ByteArray := prog_11_method_9_code
def yX9_isEight : MethodName := ⟨RX9, "isEight", "(I)Z"⟩
abbrev cX9_isPlace : ByteArray := prog_11_method_10_code
def yX9_isPlace : MethodName := ⟨RX9, "isPlace", "(II)Z"⟩
abbrev cX9_type : ByteArray := prog_11_method_11_code
def yX9_type : MethodName := ⟨RX9, "type", "(II)I"⟩
abbrev cX9_wipe : ByteArray := prog_11_method_12_code
def yX9_wipe : MethodName := ⟨RX9, "wipe", "(I)I"⟩
abbrev cX9_undo : ByteArray := prog_11_method_13_code
def yX9_undo : MethodName := ⟨RX9, "undo", "(I)I"⟩
abbrev cX9_noWall : ByteArray := prog_11_method_14_code
def yX9_noWall : MethodName := ⟨RX9, "noWall", "()V"⟩
abbrev cX9_faultOfWall : ByteArray := prog_11_method_15_code
def yX9_faultOfWall : MethodName := ⟨RX9, "faultOfWall", "()I"⟩
abbrev cX9_readsWall : ByteArray := prog_11_method_16_code
def yX9_readsWall : MethodName := ⟨RX9, "readsWall", "()I"⟩
abbrev cX9_handByte : ByteArray := prog_11_method_17_code
def yX9_handByte : MethodName := ⟨RX9, "handByte", "(I)I"⟩
abbrev cX9_readsHand : ByteArray := prog_11_method_18_code
def yX9_readsHand : MethodName := ⟨RX9, "readsHand", "(II)I"⟩
abbrev cX9_readsHands : ByteArray := prog_11_method_19_code
def yX9_readsHands : MethodName := ⟨RX9, "readsHands", "()I"⟩
abbrev cX9_faultOf : ByteArray := prog_11_method_20_code
def yX9_faultOf : MethodName := ⟨RX9, "faultOf", "(I)I"⟩
abbrev cX9_reads : ByteArray := prog_11_method_21_code
def yX9_reads : MethodName := ⟨RX9, "reads", "()V"⟩
abbrev cX9_fault : ByteArray := prog_11_method_22_code
def yX9_fault : MethodName := ⟨RX9, "fault", "(I)I"⟩
abbrev cX9_isHand : ByteArray := prog_11_method_23_code
def yX9_isHand : MethodName := ⟨RX9, "isHand", "(I)Z"⟩
abbrev cX9_stoneOf : ByteArray := prog_11_method_24_code
def yX9_stoneOf : MethodName := ⟨RX9, "stoneOf", "(I)I"⟩
abbrev cX9_stone : ByteArray := prog_11_method_25_code
def yX9_stone : MethodName := ⟨RX9, "stone", "(II)I"⟩
abbrev cX9_handOf : ByteArray := prog_11_method_26_code
def yX9_handOf : MethodName := ⟨RX9, "handOf", "(II)I"⟩
abbrev cX9_hand : ByteArray := prog_11_method_27_code
def yX9_hand : MethodName := ⟨RX9, "hand", "(II)I"⟩
abbrev cX9_jump : ByteArray := prog_11_method_28_code
def yX9_jump : MethodName := ⟨RX9, "jump", "(I)I"⟩
abbrev cX9_frost : ByteArray := prog_11_method_29_code
def yX9_frost : MethodName := ⟨RX9, "frost", "(II)I"⟩
abbrev cX9_gapping : ByteArray := prog_11_method_30_code
def yX9_gapping : MethodName := ⟨RX9, "gapping", "(III)I"⟩
abbrev cX9_back : ByteArray := prog_11_method_31_code
def yX9_back : MethodName := ⟨RX9, "back", "(I)I"⟩
abbrev cX9_read : ByteArray := prog_11_method_32_code
def yX9_read : MethodName := ⟨RX9, "read", "(I)I"⟩
abbrev cX9_asTold : ByteArray := prog_11_method_33_code
def yX9_asTold : MethodName := ⟨RX9, "asTold", "()V"⟩
abbrev cX9_handNow : ByteArray := prog_11_method_34_code
def yX9_handNow : MethodName := ⟨RX9, "handNow", "(II)I"⟩
abbrev cX9_isBorne : ByteArray := prog_11_method_35_code
def yX9_isBorne : MethodName := ⟨RX9, "isBorne", "(II)Z"⟩
abbrev cX9_alike : ByteArray := prog_11_method_36_code
def yX9_alike : MethodName := ⟨RX9, "alike", "(II)I"⟩
abbrev cX9_unlike : ByteArray := prog_11_method_37_code
def yX9_unlike : MethodName := ⟨RX9, "unlike", "(II)I"⟩
abbrev cX9_isLover : ByteArray := prog_11_method_38_code
def yX9_isLover : MethodName := ⟨RX9, "isLover", "(I)Z"⟩
abbrev cX9_loves : ByteArray := prog_11_method_39_code
def yX9_loves : MethodName := ⟨RX9, "loves", "(II)Z"⟩
abbrev cX9_holds : ByteArray := prog_11_method_40_code
def yX9_holds : MethodName := ⟨RX9, "holds", "(II)I"⟩
abbrev cX9_holdAll : ByteArray := prog_11_method_41_code
def yX9_holdAll : MethodName := ⟨RX9, "holdAll", "()V"⟩
abbrev cX9_drops : ByteArray := prog_11_method_42_code
def yX9_drops : MethodName := ⟨RX9, "drops", "(I)V"⟩
abbrev cX9_settles : ByteArray := prog_11_method_43_code
def yX9_settles : MethodName := ⟨RX9, "settles", "()V"⟩
abbrev cX9_freezes : ByteArray := prog_11_method_44_code
def yX9_freezes : MethodName := ⟨RX9, "freezes", "(I)V"⟩
abbrev cX9_mends : ByteArray := prog_11_method_45_code
def yX9_mends : MethodName := ⟨RX9, "mends", "(II)V"⟩
abbrev cX9_isThrough : ByteArray := prog_11_method_46_code
def yX9_isThrough : MethodName := ⟨RX9, "isThrough", "(II)Z"⟩
abbrev cX9_keeps : ByteArray := prog_11_method_47_code
def yX9_keeps : MethodName := ⟨RX9, "keeps", "(I)V"⟩
abbrev cX9_goesBy : ByteArray := prog_11_method_48_code
def yX9_goesBy : MethodName := ⟨RX9, "goesBy", "(I)V"⟩
abbrev cX9_runs : ByteArray := prog_11_method_49_code
def yX9_runs : MethodName := ⟨RX9, "runs", "()V"⟩
abbrev cX9_runsTold : ByteArray := prog_11_method_50_code
def yX9_runsTold : MethodName := ⟨RX9, "runsTold", "()V"⟩
abbrev cX9_atOf : ByteArray := prog_11_method_51_code
def yX9_atOf : MethodName := ⟨RX9, "atOf", "(III)I"⟩
abbrev cX9_at : ByteArray := prog_11_method_52_code
def yX9_at : MethodName := ⟨RX9, "at", "(IIII)I"⟩
abbrev cX9_isColumn : ByteArray := prog_11_method_53_code
def yX9_isColumn : MethodName := ⟨RX9, "isColumn", "(I)Z"⟩
abbrev cX9_columnOf : ByteArray := prog_11_method_54_code
def yX9_columnOf : MethodName := ⟨RX9, "columnOf", "(III)I"⟩
abbrev cX9_column : ByteArray := prog_11_method_55_code
def yX9_column : MethodName := ⟨RX9, "column", "(III)I"⟩
abbrev cX9_fallsOf : ByteArray := prog_11_method_56_code
def yX9_fallsOf : MethodName := ⟨RX9, "fallsOf", "(I)I"⟩
abbrev cX9_falls : ByteArray := prog_11_method_57_code
def yX9_falls : MethodName := ⟨RX9, "falls", "(I)I"⟩
abbrev cX9_sheepOf : ByteArray := prog_11_method_58_code
def yX9_sheepOf : MethodName := ⟨RX9, "sheepOf", "(I)I"⟩
abbrev cX9_sheep : ByteArray := prog_11_method_59_code
def yX9_sheep : MethodName := ⟨RX9, "sheep", "(I)I"⟩
abbrev cX9_mineNow : ByteArray := prog_11_method_60_code
def yX9_mineNow : MethodName := ⟨RX9, "mineNow", "(I)I"⟩
abbrev cX9_mineOf : ByteArray := prog_11_method_61_code
def yX9_mineOf : MethodName := ⟨RX9, "mineOf", "(I)I"⟩
abbrev cX9_mine : ByteArray := prog_11_method_62_code
def yX9_mine : MethodName := ⟨RX9, "mine", "(I)I"⟩
abbrev cX9_bestNow : ByteArray := prog_11_method_63_code
def yX9_bestNow : MethodName := ⟨RX9, "bestNow", "()I"⟩
abbrev cX9_best : ByteArray := prog_11_method_64_code
def yX9_best : MethodName := ⟨RX9, "best", "()I"⟩
abbrev cX9_mendOf : ByteArray := prog_11_method_65_code
def yX9_mendOf : MethodName := ⟨RX9, "mendOf", "(II)I"⟩
abbrev cX9_mend : ByteArray := prog_11_method_66_code
def yX9_mend : MethodName := ⟨RX9, "mend", "(II)I"⟩
abbrev cX9_firmOf : ByteArray := prog_11_method_67_code
def yX9_firmOf : MethodName := ⟨RX9, "firmOf", "(I)I"⟩
abbrev cX9_firm : ByteArray := prog_11_method_68_code
def yX9_firm : MethodName := ⟨RX9, "firm", "(I)I"⟩
abbrev cX9_relayOf : ByteArray := prog_11_method_69_code
def yX9_relayOf : MethodName := ⟨RX9, "relayOf", "(II)I"⟩
abbrev cX9_relay : ByteArray := prog_11_method_70_code
def yX9_relay : MethodName := ⟨RX9, "relay", "(II)I"⟩
abbrev cX9_loose : ByteArray := prog_11_method_71_code
def yX9_loose : MethodName := ⟨RX9, "loose", "(I)I"⟩
abbrev cX9_liftOf : ByteArray := prog_11_method_72_code
def yX9_liftOf : MethodName := ⟨RX9, "liftOf", "(I)I"⟩
abbrev cX9_lift : ByteArray := prog_11_method_73_code
def yX9_lift : MethodName := ⟨RX9, "lift", "(II)I"⟩
abbrev cX9_seen : ByteArray := prog_11_method_74_code
def yX9_seen : MethodName := ⟨RX9, "seen", "(IIII)I"⟩
abbrev cX9_forget : ByteArray := prog_11_method_75_code
def yX9_forget : MethodName := ⟨RX9, "forget", "()I"⟩
abbrev cX9_isSeen : ByteArray := prog_11_method_76_code
def yX9_isSeen : MethodName := ⟨RX9, "isSeen", "()Z"⟩
abbrev cX9_neverNow : ByteArray := prog_11_method_77_code
def yX9_neverNow : MethodName := ⟨RX9, "neverNow", "()I"⟩
abbrev cX9_never : ByteArray := prog_11_method_78_code
def yX9_never : MethodName := ⟨RX9, "never", "()I"⟩
abbrev cX9_strongBy : ByteArray := prog_11_method_79_code
def yX9_strongBy : MethodName := ⟨RX9, "strongBy", "(I)I"⟩
abbrev cX9_moodBy : ByteArray := prog_11_method_80_code
def yX9_moodBy : MethodName := ⟨RX9, "moodBy", "(I)I"⟩
abbrev cX9_was : ByteArray := prog_11_method_81_code
def yX9_was : MethodName := ⟨RX9, "was", "(II)I"⟩
abbrev cX9_askOf : ByteArray := prog_11_method_82_code
def yX9_askOf : MethodName := ⟨RX9, "askOf", "(I)I"⟩
abbrev cX9_ask : ByteArray := prog_11_method_83_code
def yX9_ask : MethodName := ⟨RX9, "ask", "(I)I"⟩
abbrev cX9_luckOf : ByteArray := prog_11_method_84_code
def yX9_luckOf : MethodName := ⟨RX9, "luckOf", "(II)J"⟩
abbrev cX9_luck : ByteArray := prog_11_method_85_code
def yX9_luck : MethodName := ⟨RX9, "luck", "(II)J"⟩
abbrev cX9_agesOf : ByteArray := prog_11_method_86_code
def yX9_agesOf : MethodName := ⟨RX9, "agesOf", "(III)I"⟩
abbrev cX9_ages : ByteArray := prog_11_method_87_code
def yX9_ages : MethodName := ⟨RX9, "ages", "(III)I"⟩
abbrev cX9_meets : ByteArray := prog_11_method_88_code
def yX9_meets : MethodName := ⟨RX9, "meets", "(I)I"⟩
abbrev cX9_isSheet : ByteArray := prog_11_method_89_code
def yX9_isSheet : MethodName := ⟨RX9, "isSheet", "(I)Z"⟩
abbrev cX9_sheet : ByteArray := prog_11_method_90_code
def yX9_sheet : MethodName := ⟨RX9, "sheet", "(III)I"⟩
abbrev cX9_lose : ByteArray := prog_11_method_91_code
def yX9_lose : MethodName := ⟨RX9, "lose", "(I)I"⟩
abbrev cX9_lacks : ByteArray := prog_11_method_92_code
def yX9_lacks : MethodName := ⟨RX9, "lacks", "(III)I"⟩
abbrev cX9_keep : ByteArray := prog_11_method_93_code
def yX9_keep : MethodName := ⟨RX9, "keep", "(III)V"⟩
abbrev cX9_put : ByteArray := prog_11_method_94_code
def yX9_put : MethodName := ⟨RX9, "put", "(IIII)I"⟩
abbrev cX9_get : ByteArray := prog_11_method_95_code
def yX9_get : MethodName := ⟨RX9, "get", "(III)I"⟩
abbrev cX9_copy : ByteArray := prog_11_method_96_code
def yX9_copy : MethodName := ⟨RX9, "copy", "(IIIII)I"⟩
abbrev cX9_write : ByteArray := prog_11_method_97_code
def yX9_write : MethodName := ⟨RX9, "write", "(II)I"⟩
abbrev cX9_sumOf : ByteArray := prog_11_method_98_code
def yX9_sumOf : MethodName := ⟨RX9, "sumOf", "(I)I"⟩
abbrev cX9_count : ByteArray := prog_11_method_99_code
def yX9_count : MethodName := ⟨RX9, "count", "(I)I"⟩
abbrev cX9_placeDigest : ByteArray := prog_11_method_100_code
def yX9_placeDigest : MethodName := ⟨RX9, "placeDigest", "(JI)J"⟩
abbrev cX9_handDigest : ByteArray := prog_11_method_101_code
def yX9_handDigest : MethodName := ⟨RX9, "handDigest", "(JI)J"⟩
abbrev cX9_digest : ByteArray := prog_11_method_102_code
def yX9_digest : MethodName := ⟨RX9, "digest", "()J"⟩
def RJx145de : String := "java/io/Serializable"
def TJx145de : u_T := fun k => match k with
  | _ => ("", "", "", false)
def tyJx145de : Nat → FieldType := fun k => match k with
  | _ => .int
def RJx9f9b0 : String := "java/lang/CharSequence"
def TJx9f9b0 : u_T := fun k => match k with
  | _ => ("", "", "", false)
def tyJx9f9b0 : Nat → FieldType := fun k => match k with
  | _ => .int
def RJ11 : String := "java/lang/Character"
def TJ11 : u_T := fun k => match k with
  | _ => ("", "", "", false)
def tyJ11 : Nat → FieldType := fun k => match k with
  | _ => .int
abbrev cJ11_isValidCodePoint_9a6ad : ByteArray := prog_12_method_11_code
def yJ11_isValidCodePoint_9a6ad : MethodName := ⟨RJ11, "isValidCodePoint", "(I)Z"⟩
abbrev cJ11_highSurrogate_5068e : ByteArray := prog_12_method_28_code
def yJ11_highSurrogate_5068e : MethodName := ⟨RJ11, "highSurrogate", "(I)C"⟩
abbrev cJ11_lowSurrogate_5068e : ByteArray := prog_12_method_29_code
def yJ11_lowSurrogate_5068e : MethodName := ⟨RJ11, "lowSurrogate", "(I)C"⟩
def RJxb160c : String := "java/lang/Comparable"
def TJxb160c : u_T := fun k => match k with
  | _ => ("", "", "", false)
def tyJxb160c : Nat → FieldType := fun k => match k with
  | _ => .int
def RJ13 : String := "java/lang/Long"
def TJ13 : u_T := fun k => match k with
  | _ => ("", "", "", false)
def tyJ13 : Nat → FieldType := fun k => match k with
  | _ => .int
abbrev cJ13_bitCount_95d88 : ByteArray := prog_13_method_50_code
def yJ13_bitCount_95d88 : MethodName := ⟨RJ13, "bitCount", "(J)I"⟩
def RJ9 : String := "java/lang/Math"
def TJ9 : u_T := fun k => match k with
  | _ => ("", "", "", false)
def tyJ9 : Nat → FieldType := fun k => match k with
  | _ => .int
abbrev cJ9_max_7cf53 : ByteArray := prog_14_method_65_code
def yJ9_max_7cf53 : MethodName := ⟨RJ9, "max", "(II)I"⟩
abbrev cJ9_min_7cf53 : ByteArray := prog_14_method_69_code
def yJ9_min_7cf53 : MethodName := ⟨RJ9, "min", "(II)I"⟩
def RJ0 : String := "java/lang/String"
def TJ0 : u_T := fun k => match k with
  | _ => ("", "", "", false)
def tyJ0 : Nat → FieldType := fun k => match k with
  | _ => .int
abbrev cJ0_length_8abf5 : ByteArray := prog_15_method_54_code
def yJ0_length_8abf5 : MethodName := ⟨RJ0, "length", "()I"⟩
abbrev cJ0_indexOf_0f7a4 : ByteArray := prog_15_method_79_code
def yJ0_indexOf_0f7a4 : MethodName := ⟨RJ0, "indexOf", "(I)I"⟩
abbrev cJ0_indexOf_7cf53 : ByteArray := prog_15_method_80_code
def yJ0_indexOf_7cf53 : MethodName := ⟨RJ0, "indexOf", "(II)I"⟩
abbrev cJ0_coder_7d493 : ByteArray := prog_15_method_152_code
def yJ0_coder_7d493 : MethodName := ⟨RJ0, "coder", "()B"⟩
abbrev cJ0_isLatin1_aae02 : ByteArray := prog_15_method_154_code
def yJ0_isLatin1_aae02 : MethodName := ⟨RJ0, "isLatin1", "()Z"⟩
abbrev cJ0_checkBoundsBeginEnd_23922 : ByteArray := prog_15_method_158_code
def yJ0_checkBoundsBeginEnd_23922 : MethodName := ⟨RJ0, "checkBoundsBeginEnd", "(III)V"⟩
def RJ1 : String := "java/lang/StringLatin1"
def TJ1 : u_T := fun k => match k with
  | _ => ("", "", "", false)
def tyJ1 : Nat → FieldType := fun k => match k with
  | _ => .int
abbrev cJ1_canEncode_9a6ad : ByteArray := prog_16_method_4_code
def yJ1_canEncode_9a6ad : MethodName := ⟨RJ1, "canEncode", "(I)Z"⟩
abbrev cJ1_indexOf_4cfef : ByteArray := prog_16_method_22_code
def yJ1_indexOf_4cfef : MethodName := ⟨RJ1, "indexOf", "([BIII)I"⟩
abbrev cJ1_indexOfChar_4cfef : ByteArray := prog_16_method_23_code
def yJ1_indexOfChar_4cfef : MethodName := ⟨RJ1, "indexOfChar", "([BIII)I"⟩
def RJ2 : String := "java/lang/StringUTF16"
def TJ2 : u_T := fun k => match k with
  | _ => ("", "", "", false)
def tyJ2 : Nat → FieldType := fun k => match k with
  | _ => .int
abbrev cJ2_getChar_3b067 : ByteArray := prog_17_method_5_code
def yJ2_getChar_3b067 : MethodName := ⟨RJ2, "getChar", "([BI)C"⟩
abbrev cJ2_length_9d52b : ByteArray := prog_17_method_6_code
def yJ2_length_9d52b : MethodName := ⟨RJ2, "length", "([B)I"⟩
abbrev cJ2_indexOf_4cfef : ByteArray := prog_17_method_40_code
def yJ2_indexOf_4cfef : MethodName := ⟨RJ2, "indexOf", "([BIII)I"⟩
abbrev cJ2_indexOfChar_4cfef : ByteArray := prog_17_method_47_code
def yJ2_indexOfChar_4cfef : MethodName := ⟨RJ2, "indexOfChar", "([BIII)I"⟩
abbrev cJ2_indexOfCharUnsafe_4cfef : ByteArray := prog_17_method_48_code
def yJ2_indexOfCharUnsafe_4cfef : MethodName := ⟨RJ2, "indexOfCharUnsafe", "([BIII)I"⟩
abbrev cJ2_indexOfSupplementary_4cfef : ByteArray := prog_17_method_49_code
def yJ2_indexOfSupplementary_4cfef : MethodName := ⟨RJ2, "indexOfSupplementary", "([BIII)I"⟩
abbrev cJ2_checkBoundsBeginEnd_d044e : ByteArray := prog_17_method_93_code
def yJ2_checkBoundsBeginEnd_d044e : MethodName := ⟨RJ2, "checkBoundsBeginEnd", "(II[B)V"⟩
def RJ10 : String := "java/lang/System"
def TJ10 : u_T := fun k => match k with
  | _ => ("", "", "", false)
def tyJ10 : Nat → FieldType := fun k => match k with
  | _ => .int
def RJxfd54e : String := "java/lang/constant/Constable"
def TJxfd54e : u_T := fun k => match k with
  | _ => ("", "", "", false)
def tyJxfd54e : Nat → FieldType := fun k => match k with
  | _ => .int
def RJx3cf43 : String := "java/lang/constant/ConstantDesc"
def TJx3cf43 : u_T := fun k => match k with
  | _ => ("", "", "", false)
def tyJx3cf43 : Nat → FieldType := fun k => match k with
  | _ => .int
def RJ7 : String := "java/util/Arrays"
def TJ7 : u_T := fun k => match k with
  | _ => ("", "", "", false)
def tyJ7 : Nat → FieldType := fun k => match k with
  | _ => .int
abbrev cJ7_fill_d0a16 : ByteArray := prog_19_method_101_code
def yJ7_fill_d0a16 : MethodName := ⟨RJ7, "fill", "([JJ)V"⟩
abbrev cJ7_fill_53178 : ByteArray := prog_19_method_103_code
def yJ7_fill_53178 : MethodName := ⟨RJ7, "fill", "([II)V"⟩
def RJ3 : String := "jdk/internal/util/Preconditions"
def TJ3 : u_T := fun k => match k with
  | _ => ("", "", "", false)
def tyJ3 : Nat → FieldType := fun k => match k with
  | _ => .int
abbrev cJ3_checkFromToIndex_8c36e : ByteArray := prog_20_method_12_code
def yJ3_checkFromToIndex_8c36e : MethodName := ⟨RJ3, "checkFromToIndex", "(IIILjava/util/function/BiFunction;)I"⟩
def RL : String := "WallHandsLaw"
abbrev cL_law : ByteArray := code
def yL_law : MethodName := ⟨RL, "law", "([I)Z"⟩
abbrev vwCl : List vw_C := [(RX0, TX0, 3), (RX1, TX1, 4), (RX2, TX2, 4), (RX3, TX3, 3), (RX4, TX4, 4), (RX5, TX5, 2), (RX6, TX6, 5), (RX7, TX7, 10), (RX8, TX8, 14), (RX9, TX9, 45)]
end
section
theorem dX0_init_0 : decode cX0_init 0 = .ok (.aload_n 0, 1) := by decide +kernel
theorem dX0_init_1 : decode cX0_init 1 = .ok (.invokespecial 3, 3) := by decide +kernel
theorem dX0_init_4 : decode cX0_init 4 = .ok (.aload_n 0, 1) := by decide +kernel
theorem dX0_init_5 : decode cX0_init 5 = .ok (.bipush 6, 2) := by decide +kernel
theorem dX0_init_7 : decode cX0_init 7 = .ok (.newarray .int, 2) := by decide +kernel
theorem dX0_init_9 : decode cX0_init 9 = .ok (.putfield 9, 3) := by decide +kernel
theorem dX0_init_12 : decode cX0_init 12 = .ok (.aload_n 0, 1) := by decide +kernel
theorem dX0_init_13 : decode cX0_init 13 = .ok (.bipush 6, 2) := by decide +kernel
theorem dX0_init_15 : decode cX0_init 15 = .ok (.newarray .int, 2) := by decide +kernel
theorem dX0_init_17 : decode cX0_init 17 = .ok (.putfield 15, 3) := by decide +kernel
theorem dX0_init_20 : decode cX0_init 20 = .ok (.return_, 1) := by decide +kernel
theorem dX0_mayBe_0 : decode cX0_mayBe 0 = .ok (.iload_n 0, 1) := by decide +kernel
theorem dX0_mayBe_1 : decode cX0_mayBe 1 = .ok (.invokestatic 18, 3) := by decide +kernel
theorem dX0_mayBe_4 : decode cX0_mayBe 4 = .ok (.ifCond .eq 17, 3) := by decide +kernel
theorem dX0_mayBe_7 : decode cX0_mayBe 7 = .ok (.iload_n 1, 1) := by decide +kernel
theorem dX0_mayBe_8 : decode cX0_mayBe 8 = .ok (.iconst 1, 1) := by decide +kernel
theorem dX0_mayBe_9 : decode cX0_mayBe 9 = .ok (.bipush 15, 2) := by decide +kernel
theorem dX0_mayBe_11 : decode cX0_mayBe 11 = .ok (.invokestatic 22, 3) := by decide +kernel
theorem dX0_mayBe_14 : decode cX0_mayBe 14 = .ok (.ifCond .eq 7, 3) := by decide +kernel
theorem dX0_mayBe_17 : decode cX0_mayBe 17 = .ok (.iconst 1, 1) := by decide +kernel
theorem dX0_mayBe_18 : decode cX0_mayBe 18 = .ok (.goto 4, 3) := by decide +kernel
theorem dX0_mayBe_21 : decode cX0_mayBe 21 = .ok (.iconst 0, 1) := by decide +kernel
theorem dX0_mayBe_22 : decode cX0_mayBe 22 = .ok (.ireturn, 1) := by decide +kernel
theorem dX0_add_0 : decode cX0_add 0 = .ok (.aload_n 0, 1) := by decide +kernel
theorem dX0_add_1 : decode cX0_add 1 = .ok (.getfield 26, 3) := by decide +kernel
theorem dX0_add_4 : decode cX0_add 4 = .ok (.bipush 6, 2) := by decide +kernel
theorem dX0_add_6 : decode cX0_add 6 = .ok (.if_icmp .ge 33, 3) := by decide +kernel
theorem dX0_add_9 : decode cX0_add 9 = .ok (.aload_n 0, 1) := by decide +kernel
theorem dX0_add_10 : decode cX0_add 10 = .ok (.getfield 9, 3) := by decide +kernel
theorem dX0_add_13 : decode cX0_add 13 = .ok (.aload_n 0, 1) := by decide +kernel
theorem dX0_add_14 : decode cX0_add 14 = .ok (.getfield 26, 3) := by decide +kernel
theorem dX0_add_17 : decode cX0_add 17 = .ok (.iload_n 1, 1) := by decide +kernel
theorem dX0_add_18 : decode cX0_add 18 = .ok (.iastore, 1) := by decide +kernel
theorem dX0_add_19 : decode cX0_add 19 = .ok (.aload_n 0, 1) := by decide +kernel
theorem dX0_add_20 : decode cX0_add 20 = .ok (.getfield 15, 3) := by decide +kernel
theorem dX0_add_23 : decode cX0_add 23 = .ok (.aload_n 0, 1) := by decide +kernel
theorem dX0_add_24 : decode cX0_add 24 = .ok (.getfield 26, 3) := by decide +kernel
theorem dX0_add_27 : decode cX0_add 27 = .ok (.iload_n 2, 1) := by decide +kernel
theorem dX0_add_28 : decode cX0_add 28 = .ok (.iastore, 1) := by decide +kernel
theorem dX0_add_29 : decode cX0_add 29 = .ok (.aload_n 0, 1) := by decide +kernel
theorem dX0_add_30 : decode cX0_add 30 = .ok (.dup, 1) := by decide +kernel
theorem dX0_add_31 : decode cX0_add 31 = .ok (.getfield 26, 3) := by decide +kernel
theorem dX0_add_34 : decode cX0_add 34 = .ok (.iconst 1, 1) := by decide +kernel
theorem dX0_add_35 : decode cX0_add 35 = .ok (.iadd, 1) := by decide +kernel
theorem dX0_add_36 : decode cX0_add 36 = .ok (.putfield 26, 3) := by decide +kernel
theorem dX0_add_39 : decode cX0_add 39 = .ok (.return_, 1) := by decide +kernel
theorem dX1_init_0 : decode cX1_init 0 = .ok (.aload_n 0, 1) := by decide +kernel
theorem dX1_init_1 : decode cX1_init 1 = .ok (.invokespecial 3, 3) := by decide +kernel
theorem dX1_init_4 : decode cX1_init 4 = .ok (.aload_n 0, 1) := by decide +kernel
theorem dX1_init_5 : decode cX1_init 5 = .ok (.bipush 7, 2) := by decide +kernel
theorem dX1_init_7 : decode cX1_init 7 = .ok (.newarray .int, 2) := by decide +kernel
theorem dX1_init_9 : decode cX1_init 9 = .ok (.putfield 9, 3) := by decide +kernel
theorem dX1_init_12 : decode cX1_init 12 = .ok (.aload_n 0, 1) := by decide +kernel
theorem dX1_init_13 : decode cX1_init 13 = .ok (.bipush 7, 2) := by decide +kernel
theorem dX1_init_15 : decode cX1_init 15 = .ok (.newarray .int, 2) := by decide +kernel
theorem dX1_init_17 : decode cX1_init 17 = .ok (.putfield 15, 3) := by decide +kernel
theorem dX1_init_20 : decode cX1_init 20 = .ok (.aload_n 0, 1) := by decide +kernel
theorem dX1_init_21 : decode cX1_init 21 = .ok (.bipush 7, 2) := by decide +kernel
theorem dX1_init_23 : decode cX1_init 23 = .ok (.newarray .int, 2) := by decide +kernel
theorem dX1_init_25 : decode cX1_init 25 = .ok (.putfield 18, 3) := by decide +kernel
theorem dX1_init_28 : decode cX1_init 28 = .ok (.return_, 1) := by decide +kernel
theorem dX1_add_0 : decode cX1_add 0 = .ok (.aload_n 0, 1) := by decide +kernel
theorem dX1_add_1 : decode cX1_add 1 = .ok (.getfield 21, 3) := by decide +kernel
theorem dX1_add_4 : decode cX1_add 4 = .ok (.bipush 6, 2) := by decide +kernel
theorem dX1_add_6 : decode cX1_add 6 = .ok (.if_icmp .gt 43, 3) := by decide +kernel
theorem dX1_add_9 : decode cX1_add 9 = .ok (.aload_n 0, 1) := by decide +kernel
theorem dX1_add_10 : decode cX1_add 10 = .ok (.getfield 9, 3) := by decide +kernel
theorem dX1_add_13 : decode cX1_add 13 = .ok (.aload_n 0, 1) := by decide +kernel
theorem dX1_add_14 : decode cX1_add 14 = .ok (.getfield 21, 3) := by decide +kernel
theorem dX1_add_17 : decode cX1_add 17 = .ok (.iload_n 1, 1) := by decide +kernel
theorem dX1_add_18 : decode cX1_add 18 = .ok (.iastore, 1) := by decide +kernel
theorem dX1_add_19 : decode cX1_add 19 = .ok (.aload_n 0, 1) := by decide +kernel
theorem dX1_add_20 : decode cX1_add 20 = .ok (.getfield 15, 3) := by decide +kernel
theorem dX1_add_23 : decode cX1_add 23 = .ok (.aload_n 0, 1) := by decide +kernel
theorem dX1_add_24 : decode cX1_add 24 = .ok (.getfield 21, 3) := by decide +kernel
theorem dX1_add_27 : decode cX1_add 27 = .ok (.iload_n 2, 1) := by decide +kernel
theorem dX1_add_28 : decode cX1_add 28 = .ok (.iastore, 1) := by decide +kernel
theorem dX1_add_29 : decode cX1_add 29 = .ok (.aload_n 0, 1) := by decide +kernel
theorem dX1_add_30 : decode cX1_add 30 = .ok (.getfield 18, 3) := by decide +kernel
theorem dX1_add_33 : decode cX1_add 33 = .ok (.aload_n 0, 1) := by decide +kernel
theorem dX1_add_34 : decode cX1_add 34 = .ok (.getfield 21, 3) := by decide +kernel
theorem dX1_add_37 : decode cX1_add 37 = .ok (.iload_n 3, 1) := by decide +kernel
theorem dX1_add_38 : decode cX1_add 38 = .ok (.iastore, 1) := by decide +kernel
theorem dX1_add_39 : decode cX1_add 39 = .ok (.aload_n 0, 1) := by decide +kernel
theorem dX1_add_40 : decode cX1_add 40 = .ok (.dup, 1) := by decide +kernel
theorem dX1_add_41 : decode cX1_add 41 = .ok (.getfield 21, 3) := by decide +kernel
theorem dX1_add_44 : decode cX1_add 44 = .ok (.iconst 1, 1) := by decide +kernel
theorem dX1_add_45 : decode cX1_add 45 = .ok (.iadd, 1) := by decide +kernel
theorem dX1_add_46 : decode cX1_add 46 = .ok (.putfield 21, 3) := by decide +kernel
theorem dX1_add_49 : decode cX1_add 49 = .ok (.return_, 1) := by decide +kernel
theorem dX2_init_0 : decode cX2_init 0 = .ok (.aload_n 0, 1) := by decide +kernel
theorem dX2_init_1 : decode cX2_init 1 = .ok (.invokespecial 3, 3) := by decide +kernel
theorem dX2_init_4 : decode cX2_init 4 = .ok (.aload_n 0, 1) := by decide +kernel
theorem dX2_init_5 : decode cX2_init 5 = .ok (.bipush 8, 2) := by decide +kernel
theorem dX2_init_7 : decode cX2_init 7 = .ok (.newarray .int, 2) := by decide +kernel
theorem dX2_init_9 : decode cX2_init 9 = .ok (.putfield 9, 3) := by decide +kernel
theorem dX2_init_12 : decode cX2_init 12 = .ok (.aload_n 0, 1) := by decide +kernel
theorem dX2_init_13 : decode cX2_init 13 = .ok (.bipush 8, 2) := by decide +kernel
theorem dX2_init_15 : decode cX2_init 15 = .ok (.newarray .int, 2) := by decide +kernel
theorem dX2_init_17 : decode cX2_init 17 = .ok (.putfield 15, 3) := by decide +kernel
theorem dX2_init_20 : decode cX2_init 20 = .ok (.aload_n 0, 1) := by decide +kernel
theorem dX2_init_21 : decode cX2_init 21 = .ok (.iconst (-1), 1) := by decide +kernel
theorem dX2_init_22 : decode cX2_init 22 = .ok (.putfield 18, 3) := by decide +kernel
theorem dX2_init_25 : decode cX2_init 25 = .ok (.return_, 1) := by decide +kernel
theorem dX2_has_0 : decode cX2_has 0 = .ok (.iload_n 1, 1) := by decide +kernel
theorem dX2_has_1 : decode cX2_has 1 = .ok (.iconst 0, 1) := by decide +kernel
theorem dX2_has_2 : decode cX2_has 2 = .ok (.aload_n 0, 1) := by decide +kernel
theorem dX2_has_3 : decode cX2_has 3 = .ok (.getfield 22, 3) := by decide +kernel
theorem dX2_has_6 : decode cX2_has 6 = .ok (.iconst 1, 1) := by decide +kernel
theorem dX2_has_7 : decode cX2_has 7 = .ok (.isub, 1) := by decide +kernel
theorem dX2_has_8 : decode cX2_has 8 = .ok (.invokestatic 25, 3) := by decide +kernel
theorem dX2_has_11 : decode cX2_has 11 = .ok (.ireturn, 1) := by decide +kernel
theorem dX2_tell_0 : decode cX2_tell 0 = .ok (.aload_n 0, 1) := by decide +kernel
theorem dX2_tell_1 : decode cX2_tell 1 = .ok (.aload_n 1, 1) := by decide +kernel
theorem dX2_tell_2 : decode cX2_tell 2 = .ok (.invokestatic 29, 3) := by decide +kernel
theorem dX2_tell_5 : decode cX2_tell 5 = .ok (.putfield 18, 3) := by decide +kernel
theorem dX2_tell_8 : decode cX2_tell 8 = .ok (.aload_n 0, 1) := by decide +kernel
theorem dX2_tell_9 : decode cX2_tell 9 = .ok (.aload_n 0, 1) := by decide +kernel
theorem dX2_tell_10 : decode cX2_tell 10 = .ok (.getfield 18, 3) := by decide +kernel
theorem dX2_tell_13 : decode cX2_tell 13 = .ok (.iconst (-1), 1) := by decide +kernel
theorem dX2_tell_14 : decode cX2_tell 14 = .ok (.if_icmp .ne 14, 3) := by decide +kernel
theorem dX2_tell_17 : decode cX2_tell 17 = .ok (.aload_n 1, 1) := by decide +kernel
theorem dX2_tell_18 : decode cX2_tell 18 = .ok (.getfield 33, 3) := by decide +kernel
theorem dX2_tell_21 : decode cX2_tell 21 = .ok (.iconst 1, 1) := by decide +kernel
theorem dX2_tell_22 : decode cX2_tell 22 = .ok (.iadd, 1) := by decide +kernel
theorem dX2_tell_23 : decode cX2_tell 23 = .ok (.iconst 3, 1) := by decide +kernel
theorem dX2_tell_24 : decode cX2_tell 24 = .ok (.idiv, 1) := by decide +kernel
theorem dX2_tell_25 : decode cX2_tell 25 = .ok (.goto 4, 3) := by decide +kernel
theorem dX2_tell_28 : decode cX2_tell 28 = .ok (.iconst 0, 1) := by decide +kernel
theorem dX2_tell_29 : decode cX2_tell 29 = .ok (.putfield 22, 3) := by decide +kernel
theorem dX2_tell_32 : decode cX2_tell 32 = .ok (.iconst 0, 1) := by decide +kernel
theorem dX2_tell_33 : decode cX2_tell 33 = .ok (.istore_n 2, 1) := by decide +kernel
theorem dX2_tell_34 : decode cX2_tell 34 = .ok (.iload_n 2, 1) := by decide +kernel
theorem dX2_tell_35 : decode cX2_tell 35 = .ok (.aload_n 0, 1) := by decide +kernel
theorem dX2_tell_36 : decode cX2_tell 36 = .ok (.getfield 22, 3) := by decide +kernel
theorem dX2_tell_39 : decode cX2_tell 39 = .ok (.if_icmp .ge 48, 3) := by decide +kernel
theorem dX2_tell_42 : decode cX2_tell 42 = .ok (.aload_n 0, 1) := by decide +kernel
theorem dX2_tell_43 : decode cX2_tell 43 = .ok (.getfield 9, 3) := by decide +kernel
theorem dX2_tell_46 : decode cX2_tell 46 = .ok (.iload_n 2, 1) := by decide +kernel
theorem dX2_tell_47 : decode cX2_tell 47 = .ok (.ldc 38, 2) := by decide +kernel
theorem dX2_tell_49 : decode cX2_tell 49 = .ok (.aload_n 1, 1) := by decide +kernel
theorem dX2_tell_50 : decode cX2_tell 50 = .ok (.getfield 40, 3) := by decide +kernel
theorem dX2_tell_53 : decode cX2_tell 53 = .ok (.iconst 3, 1) := by decide +kernel
theorem dX2_tell_54 : decode cX2_tell 54 = .ok (.iload_n 2, 1) := by decide +kernel
theorem dX2_tell_55 : decode cX2_tell 55 = .ok (.imul, 1) := by decide +kernel
theorem dX2_tell_56 : decode cX2_tell 56 = .ok (.iaload, 1) := by decide +kernel
theorem dX2_tell_57 : decode cX2_tell 57 = .ok (.i2c, 1) := by decide +kernel
theorem dX2_tell_58 : decode cX2_tell 58 = .ok (.invokevirtual 43, 3) := by decide +kernel
theorem dX2_tell_61 : decode cX2_tell 61 = .ok (.iastore, 1) := by decide +kernel
theorem dX2_tell_62 : decode cX2_tell 62 = .ok (.aload_n 0, 1) := by decide +kernel
theorem dX2_tell_63 : decode cX2_tell 63 = .ok (.getfield 15, 3) := by decide +kernel
theorem dX2_tell_66 : decode cX2_tell 66 = .ok (.iload_n 2, 1) := by decide +kernel
theorem dX2_tell_67 : decode cX2_tell 67 = .ok (.aload_n 1, 1) := by decide +kernel
theorem dX2_tell_68 : decode cX2_tell 68 = .ok (.getfield 40, 3) := by decide +kernel
theorem dX2_tell_71 : decode cX2_tell 71 = .ok (.iconst 3, 1) := by decide +kernel
theorem dX2_tell_72 : decode cX2_tell 72 = .ok (.iload_n 2, 1) := by decide +kernel
theorem dX2_tell_73 : decode cX2_tell 73 = .ok (.imul, 1) := by decide +kernel
theorem dX2_tell_74 : decode cX2_tell 74 = .ok (.iconst 1, 1) := by decide +kernel
theorem dX2_tell_75 : decode cX2_tell 75 = .ok (.iadd, 1) := by decide +kernel
theorem dX2_tell_76 : decode cX2_tell 76 = .ok (.iaload, 1) := by decide +kernel
theorem dX2_tell_77 : decode cX2_tell 77 = .ok (.bipush 48, 2) := by decide +kernel
theorem dX2_tell_79 : decode cX2_tell 79 = .ok (.isub, 1) := by decide +kernel
theorem dX2_tell_80 : decode cX2_tell 80 = .ok (.iastore, 1) := by decide +kernel
theorem dX2_tell_81 : decode cX2_tell 81 = .ok (.iinc 2 1, 3) := by decide +kernel
theorem dX2_tell_84 : decode cX2_tell 84 = .ok (.goto (-50), 3) := by decide +kernel
theorem dX2_tell_87 : decode cX2_tell 87 = .ok (.return_, 1) := by decide +kernel
theorem dX2_firstFault_0 : decode cX2_firstFault 0 = .ok (.iconst 0, 1) := by decide +kernel
theorem dX2_firstFault_1 : decode cX2_firstFault 1 = .ok (.istore_n 1, 1) := by decide +kernel
theorem dX2_firstFault_2 : decode cX2_firstFault 2 = .ok (.iload_n 1, 1) := by decide +kernel
theorem dX2_firstFault_3 : decode cX2_firstFault 3 = .ok (.aload_n 0, 1) := by decide +kernel
theorem dX2_firstFault_4 : decode cX2_firstFault 4 = .ok (.getfield 33, 3) := by decide +kernel
theorem dX2_firstFault_7 : decode cX2_firstFault 7 = .ok (.if_icmp .ge 76, 3) := by decide +kernel
theorem dX2_firstFault_10 : decode cX2_firstFault 10 = .ok (.aload_n 0, 1) := by decide +kernel
theorem dX2_firstFault_11 : decode cX2_firstFault 11 = .ok (.getfield 40, 3) := by decide +kernel
theorem dX2_firstFault_14 : decode cX2_firstFault 14 = .ok (.iload_n 1, 1) := by decide +kernel
theorem dX2_firstFault_15 : decode cX2_firstFault 15 = .ok (.iaload, 1) := by decide +kernel
theorem dX2_firstFault_16 : decode cX2_firstFault 16 = .ok (.istore_n 2, 1) := by decide +kernel
theorem dX2_firstFault_17 : decode cX2_firstFault 17 = .ok (.iload_n 1, 1) := by decide +kernel
theorem dX2_firstFault_18 : decode cX2_firstFault 18 = .ok (.iconst 3, 1) := by decide +kernel
theorem dX2_firstFault_19 : decode cX2_firstFault 19 = .ok (.irem, 1) := by decide +kernel
theorem dX2_firstFault_20 : decode cX2_firstFault 20 = .ok (.ifCond .ne 21, 3) := by decide +kernel
theorem dX2_firstFault_23 : decode cX2_firstFault 23 = .ok (.ldc 38, 2) := by decide +kernel
theorem dX2_firstFault_25 : decode cX2_firstFault 25 = .ok (.iload_n 2, 1) := by decide +kernel
theorem dX2_firstFault_26 : decode cX2_firstFault 26 = .ok (.i2c, 1) := by decide +kernel
theorem dX2_firstFault_27 : decode cX2_firstFault 27 = .ok (.invokevirtual 43, 3) := by decide +kernel
theorem dX2_firstFault_30 : decode cX2_firstFault 30 = .ok (.ifCond .lt 7, 3) := by decide +kernel
theorem dX2_firstFault_33 : decode cX2_firstFault 33 = .ok (.iconst 1, 1) := by decide +kernel
theorem dX2_firstFault_34 : decode cX2_firstFault 34 = .ok (.goto 36, 3) := by decide +kernel
theorem dX2_firstFault_37 : decode cX2_firstFault 37 = .ok (.iconst 0, 1) := by decide +kernel
theorem dX2_firstFault_38 : decode cX2_firstFault 38 = .ok (.goto 32, 3) := by decide +kernel
theorem dX2_firstFault_41 : decode cX2_firstFault 41 = .ok (.iload_n 1, 1) := by decide +kernel
theorem dX2_firstFault_42 : decode cX2_firstFault 42 = .ok (.iconst 3, 1) := by decide +kernel
theorem dX2_firstFault_43 : decode cX2_firstFault 43 = .ok (.irem, 1) := by decide +kernel
theorem dX2_firstFault_44 : decode cX2_firstFault 44 = .ok (.iconst 1, 1) := by decide +kernel
theorem dX2_firstFault_45 : decode cX2_firstFault 45 = .ok (.if_icmp .ne 14, 3) := by decide +kernel
theorem dX2_firstFault_48 : decode cX2_firstFault 48 = .ok (.iload_n 2, 1) := by decide +kernel
theorem dX2_firstFault_49 : decode cX2_firstFault 49 = .ok (.bipush 49, 2) := by decide +kernel
theorem dX2_firstFault_51 : decode cX2_firstFault 51 = .ok (.bipush 57, 2) := by decide +kernel
theorem dX2_firstFault_53 : decode cX2_firstFault 53 = .ok (.invokestatic 25, 3) := by decide +kernel
theorem dX2_firstFault_56 : decode cX2_firstFault 56 = .ok (.goto 14, 3) := by decide +kernel
theorem dX2_firstFault_59 : decode cX2_firstFault 59 = .ok (.iload_n 2, 1) := by decide +kernel
theorem dX2_firstFault_60 : decode cX2_firstFault 60 = .ok (.bipush 59, 2) := by decide +kernel
theorem dX2_firstFault_62 : decode cX2_firstFault 62 = .ok (.if_icmp .ne 7, 3) := by decide +kernel
theorem dX2_firstFault_65 : decode cX2_firstFault 65 = .ok (.iconst 1, 1) := by decide +kernel
theorem dX2_firstFault_66 : decode cX2_firstFault 66 = .ok (.goto 4, 3) := by decide +kernel
theorem dX2_firstFault_69 : decode cX2_firstFault 69 = .ok (.iconst 0, 1) := by decide +kernel
theorem dX2_firstFault_70 : decode cX2_firstFault 70 = .ok (.istore_n 3, 1) := by decide +kernel
theorem dX2_firstFault_71 : decode cX2_firstFault 71 = .ok (.iload_n 3, 1) := by decide +kernel
theorem dX2_firstFault_72 : decode cX2_firstFault 72 = .ok (.ifCond .ne 5, 3) := by decide +kernel
theorem dX2_firstFault_75 : decode cX2_firstFault 75 = .ok (.iload_n 1, 1) := by decide +kernel
theorem dX2_firstFault_76 : decode cX2_firstFault 76 = .ok (.ireturn, 1) := by decide +kernel
theorem dX2_firstFault_77 : decode cX2_firstFault 77 = .ok (.iinc 1 1, 3) := by decide +kernel
theorem dX2_firstFault_80 : decode cX2_firstFault 80 = .ok (.goto (-78), 3) := by decide +kernel
theorem dX2_firstFault_83 : decode cX2_firstFault 83 = .ok (.aload_n 0, 1) := by decide +kernel
theorem dX2_firstFault_84 : decode cX2_firstFault 84 = .ok (.getfield 33, 3) := by decide +kernel
theorem dX2_firstFault_87 : decode cX2_firstFault 87 = .ok (.ifCond .eq 13, 3) := by decide +kernel
theorem dX2_firstFault_90 : decode cX2_firstFault 90 = .ok (.aload_n 0, 1) := by decide +kernel
theorem dX2_firstFault_91 : decode cX2_firstFault 91 = .ok (.getfield 33, 3) := by decide +kernel
theorem dX2_firstFault_94 : decode cX2_firstFault 94 = .ok (.iconst 3, 1) := by decide +kernel
theorem dX2_firstFault_95 : decode cX2_firstFault 95 = .ok (.irem, 1) := by decide +kernel
theorem dX2_firstFault_96 : decode cX2_firstFault 96 = .ok (.iconst 2, 1) := by decide +kernel
theorem dX2_firstFault_97 : decode cX2_firstFault 97 = .ok (.if_icmp .ne 7, 3) := by decide +kernel
theorem dX2_firstFault_100 : decode cX2_firstFault 100 = .ok (.iconst (-1), 1) := by decide +kernel
theorem dX2_firstFault_101 : decode cX2_firstFault 101 = .ok (.goto 7, 3) := by decide +kernel
theorem dX2_firstFault_104 : decode cX2_firstFault 104 = .ok (.aload_n 0, 1) := by decide +kernel
theorem dX2_firstFault_105 : decode cX2_firstFault 105 = .ok (.getfield 33, 3) := by decide +kernel
theorem dX2_firstFault_108 : decode cX2_firstFault 108 = .ok (.ireturn, 1) := by decide +kernel
theorem dX3_init_0 : decode cX3_init 0 = .ok (.aload_n 0, 1) := by decide +kernel
theorem dX3_init_1 : decode cX3_init 1 = .ok (.invokespecial 3, 3) := by decide +kernel
theorem dX3_init_4 : decode cX3_init 4 = .ok (.aload_n 0, 1) := by decide +kernel
theorem dX3_init_5 : decode cX3_init 5 = .ok (.bipush 60, 2) := by decide +kernel
theorem dX3_init_7 : decode cX3_init 7 = .ok (.newarray .int, 2) := by decide +kernel
theorem dX3_init_9 : decode cX3_init 9 = .ok (.putfield 9, 3) := by decide +kernel
theorem dX3_init_12 : decode cX3_init 12 = .ok (.aload_n 0, 1) := by decide +kernel
theorem dX3_init_13 : decode cX3_init 13 = .ok (.iconst (-1), 1) := by decide +kernel
theorem dX3_init_14 : decode cX3_init 14 = .ok (.putfield 15, 3) := by decide +kernel
theorem dX3_init_17 : decode cX3_init 17 = .ok (.return_, 1) := by decide +kernel
theorem dX3_findingAt_0 : decode cX3_findingAt 0 = .ok (.aload_n 0, 1) := by decide +kernel
theorem dX3_findingAt_1 : decode cX3_findingAt 1 = .ok (.getfield 15, 3) := by decide +kernel
theorem dX3_findingAt_4 : decode cX3_findingAt 4 = .ok (.iconst (-1), 1) := by decide +kernel
theorem dX3_findingAt_5 : decode cX3_findingAt 5 = .ok (.if_icmp .ne 5, 3) := by decide +kernel
theorem dX3_findingAt_8 : decode cX3_findingAt 8 = .ok (.iconst 1, 1) := by decide +kernel
theorem dX3_findingAt_9 : decode cX3_findingAt 9 = .ok (.ireturn, 1) := by decide +kernel
theorem dX3_findingAt_10 : decode cX3_findingAt 10 = .ok (.aload_n 0, 1) := by decide +kernel
theorem dX3_findingAt_11 : decode cX3_findingAt 11 = .ok (.getfield 15, 3) := by decide +kernel
theorem dX3_findingAt_14 : decode cX3_findingAt 14 = .ok (.iload_n 1, 1) := by decide +kernel
theorem dX3_findingAt_15 : decode cX3_findingAt 15 = .ok (.if_icmp .eq 5, 3) := by decide +kernel
theorem dX3_findingAt_18 : decode cX3_findingAt 18 = .ok (.iconst 3, 1) := by decide +kernel
theorem dX3_findingAt_19 : decode cX3_findingAt 19 = .ok (.ireturn, 1) := by decide +kernel
theorem dX3_findingAt_20 : decode cX3_findingAt 20 = .ok (.iload_n 2, 1) := by decide +kernel
theorem dX3_findingAt_21 : decode cX3_findingAt 21 = .ok (.iconst 0, 1) := by decide +kernel
theorem dX3_findingAt_22 : decode cX3_findingAt 22 = .ok (.aload_n 0, 1) := by decide +kernel
theorem dX3_findingAt_23 : decode cX3_findingAt 23 = .ok (.getfield 19, 3) := by decide +kernel
theorem dX3_findingAt_26 : decode cX3_findingAt 26 = .ok (.iconst 1, 1) := by decide +kernel
theorem dX3_findingAt_27 : decode cX3_findingAt 27 = .ok (.isub, 1) := by decide +kernel
theorem dX3_findingAt_28 : decode cX3_findingAt 28 = .ok (.invokestatic 22, 3) := by decide +kernel
theorem dX3_findingAt_31 : decode cX3_findingAt 31 = .ok (.ifCond .eq 7, 3) := by decide +kernel
theorem dX3_findingAt_34 : decode cX3_findingAt 34 = .ok (.iconst 0, 1) := by decide +kernel
theorem dX3_findingAt_35 : decode cX3_findingAt 35 = .ok (.goto 4, 3) := by decide +kernel
theorem dX3_findingAt_38 : decode cX3_findingAt 38 = .ok (.iconst 2, 1) := by decide +kernel
theorem dX3_findingAt_39 : decode cX3_findingAt 39 = .ok (.ireturn, 1) := by decide +kernel
theorem dX3_hasItems_0 : decode cX3_hasItems 0 = .ok (.iload_n 1, 1) := by decide +kernel
theorem dX3_hasItems_1 : decode cX3_hasItems 1 = .ok (.iconst 0, 1) := by decide +kernel
theorem dX3_hasItems_2 : decode cX3_hasItems 2 = .ok (.aload_n 0, 1) := by decide +kernel
theorem dX3_hasItems_3 : decode cX3_hasItems 3 = .ok (.getfield 19, 3) := by decide +kernel
theorem dX3_hasItems_6 : decode cX3_hasItems 6 = .ok (.invokestatic 22, 3) := by decide +kernel
theorem dX3_hasItems_9 : decode cX3_hasItems 9 = .ok (.ifCond .eq 21, 3) := by decide +kernel
theorem dX3_hasItems_12 : decode cX3_hasItems 12 = .ok (.iload_n 2, 1) := by decide +kernel
theorem dX3_hasItems_13 : decode cX3_hasItems 13 = .ok (.iconst 0, 1) := by decide +kernel
theorem dX3_hasItems_14 : decode cX3_hasItems 14 = .ok (.aload_n 0, 1) := by decide +kernel
theorem dX3_hasItems_15 : decode cX3_hasItems 15 = .ok (.getfield 19, 3) := by decide +kernel
theorem dX3_hasItems_18 : decode cX3_hasItems 18 = .ok (.iload_n 1, 1) := by decide +kernel
theorem dX3_hasItems_19 : decode cX3_hasItems 19 = .ok (.isub, 1) := by decide +kernel
theorem dX3_hasItems_20 : decode cX3_hasItems 20 = .ok (.invokestatic 22, 3) := by decide +kernel
theorem dX3_hasItems_23 : decode cX3_hasItems 23 = .ok (.ifCond .eq 7, 3) := by decide +kernel
theorem dX3_hasItems_26 : decode cX3_hasItems 26 = .ok (.iconst 1, 1) := by decide +kernel
theorem dX3_hasItems_27 : decode cX3_hasItems 27 = .ok (.goto 4, 3) := by decide +kernel
theorem dX3_hasItems_30 : decode cX3_hasItems 30 = .ok (.iconst 0, 1) := by decide +kernel
theorem dX3_hasItems_31 : decode cX3_hasItems 31 = .ok (.ireturn, 1) := by decide +kernel
theorem dX4_init_0 : decode cX4_init 0 = .ok (.aload_n 0, 1) := by decide +kernel
theorem dX4_init_1 : decode cX4_init 1 = .ok (.invokespecial 3, 3) := by decide +kernel
theorem dX4_init_4 : decode cX4_init 4 = .ok (.aload_n 0, 1) := by decide +kernel
theorem dX4_init_5 : decode cX4_init 5 = .ok (.bipush 8, 2) := by decide +kernel
theorem dX4_init_7 : decode cX4_init 7 = .ok (.newarray .int, 2) := by decide +kernel
theorem dX4_init_9 : decode cX4_init 9 = .ok (.putfield 9, 3) := by decide +kernel
theorem dX4_init_12 : decode cX4_init 12 = .ok (.aload_n 0, 1) := by decide +kernel
theorem dX4_init_13 : decode cX4_init 13 = .ok (.bipush 8, 2) := by decide +kernel
theorem dX4_init_15 : decode cX4_init 15 = .ok (.newarray .int, 2) := by decide +kernel
theorem dX4_init_17 : decode cX4_init 17 = .ok (.putfield 15, 3) := by decide +kernel
theorem dX4_init_20 : decode cX4_init 20 = .ok (.aload_n 0, 1) := by decide +kernel
theorem dX4_init_21 : decode cX4_init 21 = .ok (.bipush 8, 2) := by decide +kernel
theorem dX4_init_23 : decode cX4_init 23 = .ok (.newarray .int, 2) := by decide +kernel
theorem dX4_init_25 : decode cX4_init 25 = .ok (.putfield 18, 3) := by decide +kernel
theorem dX4_init_28 : decode cX4_init 28 = .ok (.return_, 1) := by decide +kernel
theorem dX4_add_0 : decode cX4_add 0 = .ok (.aload_n 0, 1) := by decide +kernel
theorem dX4_add_1 : decode cX4_add 1 = .ok (.getfield 21, 3) := by decide +kernel
theorem dX4_add_4 : decode cX4_add 4 = .ok (.bipush 8, 2) := by decide +kernel
theorem dX4_add_6 : decode cX4_add 6 = .ok (.if_icmp .ge 43, 3) := by decide +kernel
theorem dX4_add_9 : decode cX4_add 9 = .ok (.aload_n 0, 1) := by decide +kernel
theorem dX4_add_10 : decode cX4_add 10 = .ok (.getfield 9, 3) := by decide +kernel
theorem dX4_add_13 : decode cX4_add 13 = .ok (.aload_n 0, 1) := by decide +kernel
theorem dX4_add_14 : decode cX4_add 14 = .ok (.getfield 21, 3) := by decide +kernel
theorem dX4_add_17 : decode cX4_add 17 = .ok (.iload_n 1, 1) := by decide +kernel
theorem dX4_add_18 : decode cX4_add 18 = .ok (.iastore, 1) := by decide +kernel
theorem dX4_add_19 : decode cX4_add 19 = .ok (.aload_n 0, 1) := by decide +kernel
theorem dX4_add_20 : decode cX4_add 20 = .ok (.getfield 15, 3) := by decide +kernel
theorem dX4_add_23 : decode cX4_add 23 = .ok (.aload_n 0, 1) := by decide +kernel
theorem dX4_add_24 : decode cX4_add 24 = .ok (.getfield 21, 3) := by decide +kernel
theorem dX4_add_27 : decode cX4_add 27 = .ok (.iload_n 2, 1) := by decide +kernel
theorem dX4_add_28 : decode cX4_add 28 = .ok (.iastore, 1) := by decide +kernel
theorem dX4_add_29 : decode cX4_add 29 = .ok (.aload_n 0, 1) := by decide +kernel
theorem dX4_add_30 : decode cX4_add 30 = .ok (.getfield 18, 3) := by decide +kernel
theorem dX4_add_33 : decode cX4_add 33 = .ok (.aload_n 0, 1) := by decide +kernel
theorem dX4_add_34 : decode cX4_add 34 = .ok (.getfield 21, 3) := by decide +kernel
theorem dX4_add_37 : decode cX4_add 37 = .ok (.iload_n 3, 1) := by decide +kernel
theorem dX4_add_38 : decode cX4_add 38 = .ok (.iastore, 1) := by decide +kernel
theorem dX4_add_39 : decode cX4_add 39 = .ok (.aload_n 0, 1) := by decide +kernel
theorem dX4_add_40 : decode cX4_add 40 = .ok (.dup, 1) := by decide +kernel
theorem dX4_add_41 : decode cX4_add 41 = .ok (.getfield 21, 3) := by decide +kernel
theorem dX4_add_44 : decode cX4_add 44 = .ok (.iconst 1, 1) := by decide +kernel
theorem dX4_add_45 : decode cX4_add 45 = .ok (.iadd, 1) := by decide +kernel
theorem dX4_add_46 : decode cX4_add 46 = .ok (.putfield 21, 3) := by decide +kernel
theorem dX4_add_49 : decode cX4_add 49 = .ok (.return_, 1) := by decide +kernel
theorem dX4_comeOutIn_0 : decode cX4_comeOutIn 0 = .ok (.iconst 0, 1) := by decide +kernel
theorem dX4_comeOutIn_1 : decode cX4_comeOutIn 1 = .ok (.istore_n 2, 1) := by decide +kernel
theorem dX4_comeOutIn_2 : decode cX4_comeOutIn 2 = .ok (.iload_n 2, 1) := by decide +kernel
theorem dX4_comeOutIn_3 : decode cX4_comeOutIn 3 = .ok (.aload_n 0, 1) := by decide +kernel
theorem dX4_comeOutIn_4 : decode cX4_comeOutIn 4 = .ok (.getfield 21, 3) := by decide +kernel
theorem dX4_comeOutIn_7 : decode cX4_comeOutIn 7 = .ok (.if_icmp .ge 36, 3) := by decide +kernel
theorem dX4_comeOutIn_10 : decode cX4_comeOutIn 10 = .ok (.aload_n 1, 1) := by decide +kernel
theorem dX4_comeOutIn_11 : decode cX4_comeOutIn 11 = .ok (.aload_n 0, 1) := by decide +kernel
theorem dX4_comeOutIn_12 : decode cX4_comeOutIn 12 = .ok (.getfield 9, 3) := by decide +kernel
theorem dX4_comeOutIn_15 : decode cX4_comeOutIn 15 = .ok (.iload_n 2, 1) := by decide +kernel
theorem dX4_comeOutIn_16 : decode cX4_comeOutIn 16 = .ok (.iaload, 1) := by decide +kernel
theorem dX4_comeOutIn_17 : decode cX4_comeOutIn 17 = .ok (.aload_n 0, 1) := by decide +kernel
theorem dX4_comeOutIn_18 : decode cX4_comeOutIn 18 = .ok (.getfield 15, 3) := by decide +kernel
theorem dX4_comeOutIn_21 : decode cX4_comeOutIn 21 = .ok (.iload_n 2, 1) := by decide +kernel
theorem dX4_comeOutIn_22 : decode cX4_comeOutIn 22 = .ok (.iaload, 1) := by decide +kernel
theorem dX4_comeOutIn_23 : decode cX4_comeOutIn 23 = .ok (.invokevirtual 25, 3) := by decide +kernel
theorem dX4_comeOutIn_26 : decode cX4_comeOutIn 26 = .ok (.aload_n 0, 1) := by decide +kernel
theorem dX4_comeOutIn_27 : decode cX4_comeOutIn 27 = .ok (.getfield 18, 3) := by decide +kernel
theorem dX4_comeOutIn_30 : decode cX4_comeOutIn 30 = .ok (.iload_n 2, 1) := by decide +kernel
theorem dX4_comeOutIn_31 : decode cX4_comeOutIn 31 = .ok (.iaload, 1) := by decide +kernel
theorem dX4_comeOutIn_32 : decode cX4_comeOutIn 32 = .ok (.if_icmp .eq 5, 3) := by decide +kernel
theorem dX4_comeOutIn_35 : decode cX4_comeOutIn 35 = .ok (.iconst 0, 1) := by decide +kernel
theorem dX4_comeOutIn_36 : decode cX4_comeOutIn 36 = .ok (.ireturn, 1) := by decide +kernel
theorem dX4_comeOutIn_37 : decode cX4_comeOutIn 37 = .ok (.iinc 2 1, 3) := by decide +kernel
theorem dX4_comeOutIn_40 : decode cX4_comeOutIn 40 = .ok (.goto (-38), 3) := by decide +kernel
theorem dX4_comeOutIn_43 : decode cX4_comeOutIn 43 = .ok (.iconst 1, 1) := by decide +kernel
theorem dX4_comeOutIn_44 : decode cX4_comeOutIn 44 = .ok (.ireturn, 1) := by decide +kernel
theorem dX5_init_0 : decode cX5_init 0 = .ok (.aload_n 0, 1) := by decide +kernel
theorem dX5_init_1 : decode cX5_init 1 = .ok (.invokespecial 1, 3) := by decide +kernel
theorem dX5_init_4 : decode cX5_init 4 = .ok (.aload_n 0, 1) := by decide +kernel
theorem dX5_init_5 : decode cX5_init 5 = .ok (.iload_n 1, 1) := by decide +kernel
theorem dX5_init_6 : decode cX5_init 6 = .ok (.newarray .int, 2) := by decide +kernel
theorem dX5_init_8 : decode cX5_init 8 = .ok (.putfield 7, 3) := by decide +kernel
theorem dX5_init_11 : decode cX5_init 11 = .ok (.return_, 1) := by decide +kernel
theorem dX6_init_0 : decode cX6_init 0 = .ok (.aload_n 0, 1) := by decide +kernel
theorem dX6_init_1 : decode cX6_init 1 = .ok (.invokespecial 3, 3) := by decide +kernel
theorem dX6_init_4 : decode cX6_init 4 = .ok (.aload_n 0, 1) := by decide +kernel
theorem dX6_init_5 : decode cX6_init 5 = .ok (.bipush 8, 2) := by decide +kernel
theorem dX6_init_7 : decode cX6_init 7 = .ok (.newarray .long, 2) := by decide +kernel
theorem dX6_init_9 : decode cX6_init 9 = .ok (.putfield 9, 3) := by decide +kernel
theorem dX6_init_12 : decode cX6_init 12 = .ok (.aload_n 0, 1) := by decide +kernel
theorem dX6_init_13 : decode cX6_init 13 = .ok (.iconst (-1), 1) := by decide +kernel
theorem dX6_init_14 : decode cX6_init 14 = .ok (.putfield 15, 3) := by decide +kernel
theorem dX6_init_17 : decode cX6_init 17 = .ok (.aload_n 0, 1) := by decide +kernel
theorem dX6_init_18 : decode cX6_init 18 = .ok (.iconst 2, 1) := by decide +kernel
theorem dX6_init_19 : decode cX6_init 19 = .ok (.putfield 19, 3) := by decide +kernel
theorem dX6_init_22 : decode cX6_init 22 = .ok (.return_, 1) := by decide +kernel
theorem dX6_tell_0 : decode cX6_tell 0 = .ok (.aload_n 0, 1) := by decide +kernel
theorem dX6_tell_1 : decode cX6_tell 1 = .ok (.getfield 9, 3) := by decide +kernel
theorem dX6_tell_4 : decode cX6_tell 4 = .ok (.lconst 0, 1) := by decide +kernel
theorem dX6_tell_5 : decode cX6_tell 5 = .ok (.invokestatic 22, 3) := by decide +kernel
theorem dX6_tell_8 : decode cX6_tell 8 = .ok (.aload_n 0, 1) := by decide +kernel
theorem dX6_tell_9 : decode cX6_tell 9 = .ok (.iconst 0, 1) := by decide +kernel
theorem dX6_tell_10 : decode cX6_tell 10 = .ok (.putfield 28, 3) := by decide +kernel
theorem dX6_tell_13 : decode cX6_tell 13 = .ok (.aload_n 0, 1) := by decide +kernel
theorem dX6_tell_14 : decode cX6_tell 14 = .ok (.iconst 0, 1) := by decide +kernel
theorem dX6_tell_15 : decode cX6_tell 15 = .ok (.putfield 31, 3) := by decide +kernel
theorem dX6_tell_18 : decode cX6_tell 18 = .ok (.aload_n 0, 1) := by decide +kernel
theorem dX6_tell_19 : decode cX6_tell 19 = .ok (.aload_n 1, 1) := by decide +kernel
theorem dX6_tell_20 : decode cX6_tell 20 = .ok (.invokestatic 34, 3) := by decide +kernel
theorem dX6_tell_23 : decode cX6_tell 23 = .ok (.putfield 15, 3) := by decide +kernel
theorem dX6_tell_26 : decode cX6_tell 26 = .ok (.aload_n 0, 1) := by decide +kernel
theorem dX6_tell_27 : decode cX6_tell 27 = .ok (.getfield 15, 3) := by decide +kernel
theorem dX6_tell_30 : decode cX6_tell 30 = .ok (.iconst (-1), 1) := by decide +kernel
theorem dX6_tell_31 : decode cX6_tell 31 = .ok (.if_icmp .ne 15, 3) := by decide +kernel
theorem dX6_tell_34 : decode cX6_tell 34 = .ok (.aload_n 1, 1) := by decide +kernel
theorem dX6_tell_35 : decode cX6_tell 35 = .ok (.getfield 38, 3) := by decide +kernel
theorem dX6_tell_38 : decode cX6_tell 38 = .ok (.ifCond .le 8, 3) := by decide +kernel
theorem dX6_tell_41 : decode cX6_tell 41 = .ok (.aload_n 0, 1) := by decide +kernel
theorem dX6_tell_42 : decode cX6_tell 42 = .ok (.aload_n 1, 1) := by decide +kernel
theorem dX6_tell_43 : decode cX6_tell 43 = .ok (.invokevirtual 43, 3) := by decide +kernel
theorem dX6_tell_46 : decode cX6_tell 46 = .ok (.return_, 1) := by decide +kernel
theorem dX6_lay_0 : decode cX6_lay 0 = .ok (.iconst 0, 1) := by decide +kernel
theorem dX6_lay_1 : decode cX6_lay 1 = .ok (.istore_n 2, 1) := by decide +kernel
theorem dX6_lay_2 : decode cX6_lay 2 = .ok (.iconst 0, 1) := by decide +kernel
theorem dX6_lay_3 : decode cX6_lay 3 = .ok (.istore_n 3, 1) := by decide +kernel
theorem dX6_lay_4 : decode cX6_lay 4 = .ok (.iconst 0, 1) := by decide +kernel
theorem dX6_lay_5 : decode cX6_lay 5 = .ok (.istore 4, 2) := by decide +kernel
theorem dX6_lay_7 : decode cX6_lay 7 = .ok (.iload 4, 2) := by decide +kernel
theorem dX6_lay_9 : decode cX6_lay 9 = .ok (.aload_n 1, 1) := by decide +kernel
theorem dX6_lay_10 : decode cX6_lay 10 = .ok (.getfield 38, 3) := by decide +kernel
theorem dX6_lay_13 : decode cX6_lay 13 = .ok (.if_icmp .ge 69, 3) := by decide +kernel
theorem dX6_lay_16 : decode cX6_lay 16 = .ok (.aload_n 1, 1) := by decide +kernel
theorem dX6_lay_17 : decode cX6_lay 17 = .ok (.getfield 47, 3) := by decide +kernel
theorem dX6_lay_20 : decode cX6_lay 20 = .ok (.iload 4, 2) := by decide +kernel
theorem dX6_lay_22 : decode cX6_lay 22 = .ok (.iaload, 1) := by decide +kernel
theorem dX6_lay_23 : decode cX6_lay 23 = .ok (.istore 5, 2) := by decide +kernel
theorem dX6_lay_25 : decode cX6_lay 25 = .ok (.iload 5, 2) := by decide +kernel
theorem dX6_lay_27 : decode cX6_lay 27 = .ok (.bipush 59, 2) := by decide +kernel
theorem dX6_lay_29 : decode cX6_lay 29 = .ok (.if_icmp .ne 11, 3) := by decide +kernel
theorem dX6_lay_32 : decode cX6_lay 32 = .ok (.iinc 2 1, 3) := by decide +kernel
theorem dX6_lay_35 : decode cX6_lay 35 = .ok (.iconst 0, 1) := by decide +kernel
theorem dX6_lay_36 : decode cX6_lay 36 = .ok (.istore_n 3, 1) := by decide +kernel
theorem dX6_lay_37 : decode cX6_lay 37 = .ok (.goto 39, 3) := by decide +kernel
theorem dX6_lay_40 : decode cX6_lay 40 = .ok (.iload 5, 2) := by decide +kernel
theorem dX6_lay_42 : decode cX6_lay 42 = .ok (.bipush 97, 2) := by decide +kernel
theorem dX6_lay_44 : decode cX6_lay 44 = .ok (.bipush 104, 2) := by decide +kernel
theorem dX6_lay_46 : decode cX6_lay 46 = .ok (.invokestatic 51, 3) := by decide +kernel
theorem dX6_lay_49 : decode cX6_lay 49 = .ok (.ifCond .eq 24, 3) := by decide +kernel
theorem dX6_lay_52 : decode cX6_lay 52 = .ok (.aload_n 0, 1) := by decide +kernel
theorem dX6_lay_53 : decode cX6_lay 53 = .ok (.getfield 9, 3) := by decide +kernel
theorem dX6_lay_56 : decode cX6_lay 56 = .ok (.iload 5, 2) := by decide +kernel
theorem dX6_lay_58 : decode cX6_lay 58 = .ok (.bipush 97, 2) := by decide +kernel
theorem dX6_lay_60 : decode cX6_lay 60 = .ok (.isub, 1) := by decide +kernel
theorem dX6_lay_61 : decode cX6_lay 61 = .ok (.dup2, 1) := by decide +kernel
theorem dX6_lay_62 : decode cX6_lay 62 = .ok (.laload, 1) := by decide +kernel
theorem dX6_lay_63 : decode cX6_lay 63 = .ok (.lconst 1, 1) := by decide +kernel
theorem dX6_lay_64 : decode cX6_lay 64 = .ok (.bipush 8, 2) := by decide +kernel
theorem dX6_lay_66 : decode cX6_lay 66 = .ok (.iload_n 2, 1) := by decide +kernel
theorem dX6_lay_67 : decode cX6_lay 67 = .ok (.imul, 1) := by decide +kernel
theorem dX6_lay_68 : decode cX6_lay 68 = .ok (.iload_n 3, 1) := by decide +kernel
theorem dX6_lay_69 : decode cX6_lay 69 = .ok (.iadd, 1) := by decide +kernel
theorem dX6_lay_70 : decode cX6_lay 70 = .ok (.lshl, 1) := by decide +kernel
theorem dX6_lay_71 : decode cX6_lay 71 = .ok (.lor, 1) := by decide +kernel
theorem dX6_lay_72 : decode cX6_lay 72 = .ok (.lastore, 1) := by decide +kernel
theorem dX6_lay_73 : decode cX6_lay 73 = .ok (.iinc 3 1, 3) := by decide +kernel
theorem dX6_lay_76 : decode cX6_lay 76 = .ok (.iinc 4 1, 3) := by decide +kernel
theorem dX6_lay_79 : decode cX6_lay 79 = .ok (.goto (-72), 3) := by decide +kernel
theorem dX6_lay_82 : decode cX6_lay 82 = .ok (.aload_n 0, 1) := by decide +kernel
theorem dX6_lay_83 : decode cX6_lay 83 = .ok (.iload_n 2, 1) := by decide +kernel
theorem dX6_lay_84 : decode cX6_lay 84 = .ok (.iconst 1, 1) := by decide +kernel
theorem dX6_lay_85 : decode cX6_lay 85 = .ok (.iadd, 1) := by decide +kernel
theorem dX6_lay_86 : decode cX6_lay 86 = .ok (.putfield 28, 3) := by decide +kernel
theorem dX6_lay_89 : decode cX6_lay 89 = .ok (.aload_n 0, 1) := by decide +kernel
theorem dX6_lay_90 : decode cX6_lay 90 = .ok (.iload_n 3, 1) := by decide +kernel
theorem dX6_lay_91 : decode cX6_lay 91 = .ok (.putfield 31, 3) := by decide +kernel
theorem dX6_lay_94 : decode cX6_lay 94 = .ok (.return_, 1) := by decide +kernel
theorem dX6_passOn_0 : decode cX6_passOn 0 = .ok (.aload_n 0, 1) := by decide +kernel
theorem dX6_passOn_1 : decode cX6_passOn 1 = .ok (.getfield 9, 3) := by decide +kernel
theorem dX6_passOn_4 : decode cX6_passOn 4 = .ok (.iload_n 2, 1) := by decide +kernel
theorem dX6_passOn_5 : decode cX6_passOn 5 = .ok (.dup2, 1) := by decide +kernel
theorem dX6_passOn_6 : decode cX6_passOn 6 = .ok (.laload, 1) := by decide +kernel
theorem dX6_passOn_7 : decode cX6_passOn 7 = .ok (.lconst 1, 1) := by decide +kernel
theorem dX6_passOn_8 : decode cX6_passOn 8 = .ok (.iload_n 1, 1) := by decide +kernel
theorem dX6_passOn_9 : decode cX6_passOn 9 = .ok (.lshl, 1) := by decide +kernel
theorem dX6_passOn_10 : decode cX6_passOn 10 = .ok (.ldc2_w 55, 3) := by decide +kernel
theorem dX6_passOn_13 : decode cX6_passOn 13 = .ok (.lxor, 1) := by decide +kernel
theorem dX6_passOn_14 : decode cX6_passOn 14 = .ok (.land, 1) := by decide +kernel
theorem dX6_passOn_15 : decode cX6_passOn 15 = .ok (.lastore, 1) := by decide +kernel
theorem dX6_passOn_16 : decode cX6_passOn 16 = .ok (.aload_n 0, 1) := by decide +kernel
theorem dX6_passOn_17 : decode cX6_passOn 17 = .ok (.getfield 9, 3) := by decide +kernel
theorem dX6_passOn_20 : decode cX6_passOn 20 = .ok (.iload_n 3, 1) := by decide +kernel
theorem dX6_passOn_21 : decode cX6_passOn 21 = .ok (.dup2, 1) := by decide +kernel
theorem dX6_passOn_22 : decode cX6_passOn 22 = .ok (.laload, 1) := by decide +kernel
theorem dX6_passOn_23 : decode cX6_passOn 23 = .ok (.lconst 1, 1) := by decide +kernel
theorem dX6_passOn_24 : decode cX6_passOn 24 = .ok (.iload_n 1, 1) := by decide +kernel
theorem dX6_passOn_25 : decode cX6_passOn 25 = .ok (.lshl, 1) := by decide +kernel
theorem dX6_passOn_26 : decode cX6_passOn 26 = .ok (.lor, 1) := by decide +kernel
theorem dX6_passOn_27 : decode cX6_passOn 27 = .ok (.lastore, 1) := by decide +kernel
theorem dX6_passOn_28 : decode cX6_passOn 28 = .ok (.return_, 1) := by decide +kernel
theorem dX6_firstFault_0 : decode cX6_firstFault 0 = .ok (.iconst 0, 1) := by decide +kernel
theorem dX6_firstFault_1 : decode cX6_firstFault 1 = .ok (.istore_n 1, 1) := by decide +kernel
theorem dX6_firstFault_2 : decode cX6_firstFault 2 = .ok (.iconst 0, 1) := by decide +kernel
theorem dX6_firstFault_3 : decode cX6_firstFault 3 = .ok (.istore_n 2, 1) := by decide +kernel
theorem dX6_firstFault_4 : decode cX6_firstFault 4 = .ok (.iconst 1, 1) := by decide +kernel
theorem dX6_firstFault_5 : decode cX6_firstFault 5 = .ok (.istore_n 3, 1) := by decide +kernel
theorem dX6_firstFault_6 : decode cX6_firstFault 6 = .ok (.bipush 8, 2) := by decide +kernel
theorem dX6_firstFault_8 : decode cX6_firstFault 8 = .ok (.istore 4, 2) := by decide +kernel
theorem dX6_firstFault_10 : decode cX6_firstFault 10 = .ok (.iconst 0, 1) := by decide +kernel
theorem dX6_firstFault_11 : decode cX6_firstFault 11 = .ok (.istore 5, 2) := by decide +kernel
theorem dX6_firstFault_13 : decode cX6_firstFault 13 = .ok (.iload 5, 2) := by decide +kernel
theorem dX6_firstFault_15 : decode cX6_firstFault 15 = .ok (.aload_n 0, 1) := by decide +kernel
theorem dX6_firstFault_16 : decode cX6_firstFault 16 = .ok (.getfield 38, 3) := by decide +kernel
theorem dX6_firstFault_19 : decode cX6_firstFault 19 = .ok (.if_icmp .ge 82, 3) := by decide +kernel
theorem dX6_firstFault_22 : decode cX6_firstFault 22 = .ok (.aload_n 0, 1) := by decide +kernel
theorem dX6_firstFault_23 : decode cX6_firstFault 23 = .ok (.getfield 47, 3) := by decide +kernel
theorem dX6_firstFault_26 : decode cX6_firstFault 26 = .ok (.iload 5, 2) := by decide +kernel
theorem dX6_firstFault_28 : decode cX6_firstFault 28 = .ok (.iaload, 1) := by decide +kernel
theorem dX6_firstFault_29 : decode cX6_firstFault 29 = .ok (.istore 6, 2) := by decide +kernel
theorem dX6_firstFault_31 : decode cX6_firstFault 31 = .ok (.iload 6, 2) := by decide +kernel
theorem dX6_firstFault_33 : decode cX6_firstFault 33 = .ok (.bipush 59, 2) := by decide +kernel
theorem dX6_firstFault_35 : decode cX6_firstFault 35 = .ok (.if_icmp .ne 24, 3) := by decide +kernel
theorem dX6_firstFault_38 : decode cX6_firstFault 38 = .ok (.iload_n 2, 1) := by decide +kernel
theorem dX6_firstFault_39 : decode cX6_firstFault 39 = .ok (.iload_n 3, 1) := by decide +kernel
theorem dX6_firstFault_40 : decode cX6_firstFault 40 = .ok (.if_icmp .ge 6, 3) := by decide +kernel
theorem dX6_firstFault_43 : decode cX6_firstFault 43 = .ok (.iload 5, 2) := by decide +kernel
theorem dX6_firstFault_45 : decode cX6_firstFault 45 = .ok (.ireturn, 1) := by decide +kernel
theorem dX6_firstFault_46 : decode cX6_firstFault 46 = .ok (.iload_n 2, 1) := by decide +kernel
theorem dX6_firstFault_47 : decode cX6_firstFault 47 = .ok (.istore_n 3, 1) := by decide +kernel
theorem dX6_firstFault_48 : decode cX6_firstFault 48 = .ok (.iload_n 2, 1) := by decide +kernel
theorem dX6_firstFault_49 : decode cX6_firstFault 49 = .ok (.istore 4, 2) := by decide +kernel
theorem dX6_firstFault_51 : decode cX6_firstFault 51 = .ok (.iinc 1 1, 3) := by decide +kernel
theorem dX6_firstFault_54 : decode cX6_firstFault 54 = .ok (.iconst 0, 1) := by decide +kernel
theorem dX6_firstFault_55 : decode cX6_firstFault 55 = .ok (.istore_n 2, 1) := by decide +kernel
theorem dX6_firstFault_56 : decode cX6_firstFault 56 = .ok (.goto 39, 3) := by decide +kernel
theorem dX6_firstFault_59 : decode cX6_firstFault 59 = .ok (.iload_n 1, 1) := by decide +kernel
theorem dX6_firstFault_60 : decode cX6_firstFault 60 = .ok (.iconst 5, 1) := by decide +kernel
theorem dX6_firstFault_61 : decode cX6_firstFault 61 = .ok (.if_icmp .eq 28, 3) := by decide +kernel
theorem dX6_firstFault_64 : decode cX6_firstFault 64 = .ok (.iload_n 2, 1) := by decide +kernel
theorem dX6_firstFault_65 : decode cX6_firstFault 65 = .ok (.iload 4, 2) := by decide +kernel
theorem dX6_firstFault_67 : decode cX6_firstFault 67 = .ok (.if_icmp .eq 22, 3) := by decide +kernel
theorem dX6_firstFault_70 : decode cX6_firstFault 70 = .ok (.iload 6, 2) := by decide +kernel
theorem dX6_firstFault_72 : decode cX6_firstFault 72 = .ok (.bipush 46, 2) := by decide +kernel
theorem dX6_firstFault_74 : decode cX6_firstFault 74 = .ok (.if_icmp .eq 18, 3) := by decide +kernel
theorem dX6_firstFault_77 : decode cX6_firstFault 77 = .ok (.iload 6, 2) := by decide +kernel
theorem dX6_firstFault_79 : decode cX6_firstFault 79 = .ok (.bipush 97, 2) := by decide +kernel
theorem dX6_firstFault_81 : decode cX6_firstFault 81 = .ok (.bipush 104, 2) := by decide +kernel
theorem dX6_firstFault_83 : decode cX6_firstFault 83 = .ok (.invokestatic 51, 3) := by decide +kernel
theorem dX6_firstFault_86 : decode cX6_firstFault 86 = .ok (.ifCond .ne 6, 3) := by decide +kernel
theorem dX6_firstFault_89 : decode cX6_firstFault 89 = .ok (.iload 5, 2) := by decide +kernel
theorem dX6_firstFault_91 : decode cX6_firstFault 91 = .ok (.ireturn, 1) := by decide +kernel
theorem dX6_firstFault_92 : decode cX6_firstFault 92 = .ok (.iinc 2 1, 3) := by decide +kernel
theorem dX6_firstFault_95 : decode cX6_firstFault 95 = .ok (.iinc 5 1, 3) := by decide +kernel
theorem dX6_firstFault_98 : decode cX6_firstFault 98 = .ok (.goto (-85), 3) := by decide +kernel
theorem dX6_firstFault_101 : decode cX6_firstFault 101 = .ok (.aload_n 0, 1) := by decide +kernel
theorem dX6_firstFault_102 : decode cX6_firstFault 102 = .ok (.getfield 38, 3) := by decide +kernel
theorem dX6_firstFault_105 : decode cX6_firstFault 105 = .ok (.ifCond .le 15, 3) := by decide +kernel
theorem dX6_firstFault_108 : decode cX6_firstFault 108 = .ok (.iload_n 2, 1) := by decide +kernel
theorem dX6_firstFault_109 : decode cX6_firstFault 109 = .ok (.iload_n 3, 1) := by decide +kernel
theorem dX6_firstFault_110 : decode cX6_firstFault 110 = .ok (.if_icmp .ge 10, 3) := by decide +kernel
theorem dX6_firstFault_113 : decode cX6_firstFault 113 = .ok (.aload_n 0, 1) := by decide +kernel
theorem dX6_firstFault_114 : decode cX6_firstFault 114 = .ok (.getfield 38, 3) := by decide +kernel
theorem dX6_firstFault_117 : decode cX6_firstFault 117 = .ok (.goto 4, 3) := by decide +kernel
theorem dX6_firstFault_120 : decode cX6_firstFault 120 = .ok (.iconst (-1), 1) := by decide +kernel
theorem dX6_firstFault_121 : decode cX6_firstFault 121 = .ok (.ireturn, 1) := by decide +kernel
theorem dX7_init_0 : decode cX7_init 0 = .ok (.aload_n 0, 1) := by decide +kernel
theorem dX7_init_1 : decode cX7_init 1 = .ok (.invokespecial 3, 3) := by decide +kernel
theorem dX7_init_4 : decode cX7_init 4 = .ok (.aload_n 0, 1) := by decide +kernel
theorem dX7_init_5 : decode cX7_init 5 = .ok (.bipush 8, 2) := by decide +kernel
theorem dX7_init_7 : decode cX7_init 7 = .ok (.newarray .long, 2) := by decide +kernel
theorem dX7_init_9 : decode cX7_init 9 = .ok (.putfield 9, 3) := by decide +kernel
theorem dX7_init_12 : decode cX7_init 12 = .ok (.aload_n 0, 1) := by decide +kernel
theorem dX7_init_13 : decode cX7_init 13 = .ok (.sipush 160, 3) := by decide +kernel
theorem dX7_init_16 : decode cX7_init 16 = .ok (.newarray .long, 2) := by decide +kernel
theorem dX7_init_18 : decode cX7_init 18 = .ok (.putfield 15, 3) := by decide +kernel
theorem dX7_init_21 : decode cX7_init 21 = .ok (.aload_n 0, 1) := by decide +kernel
theorem dX7_init_22 : decode cX7_init 22 = .ok (.bipush 20, 2) := by decide +kernel
theorem dX7_init_24 : decode cX7_init 24 = .ok (.newarray .long, 2) := by decide +kernel
theorem dX7_init_26 : decode cX7_init 26 = .ok (.putfield 18, 3) := by decide +kernel
theorem dX7_init_29 : decode cX7_init 29 = .ok (.aload_n 0, 1) := by decide +kernel
theorem dX7_init_30 : decode cX7_init 30 = .ok (.bipush 20, 2) := by decide +kernel
theorem dX7_init_32 : decode cX7_init 32 = .ok (.newarray .int, 2) := by decide +kernel
theorem dX7_init_34 : decode cX7_init 34 = .ok (.putfield 21, 3) := by decide +kernel
theorem dX7_init_37 : decode cX7_init 37 = .ok (.aload_n 0, 1) := by decide +kernel
theorem dX7_init_38 : decode cX7_init 38 = .ok (.bipush 20, 2) := by decide +kernel
theorem dX7_init_40 : decode cX7_init 40 = .ok (.newarray .int, 2) := by decide +kernel
theorem dX7_init_42 : decode cX7_init 42 = .ok (.putfield 25, 3) := by decide +kernel
theorem dX7_init_45 : decode cX7_init 45 = .ok (.aload_n 0, 1) := by decide +kernel
theorem dX7_init_46 : decode cX7_init 46 = .ok (.aload_n 1, 1) := by decide +kernel
theorem dX7_init_47 : decode cX7_init 47 = .ok (.putfield 28, 3) := by decide +kernel
theorem dX7_init_50 : decode cX7_init 50 = .ok (.aload_n 0, 1) := by decide +kernel
theorem dX7_init_51 : decode cX7_init 51 = .ok (.aload_n 2, 1) := by decide +kernel
theorem dX7_init_52 : decode cX7_init 52 = .ok (.putfield 32, 3) := by decide +kernel
theorem dX7_init_55 : decode cX7_init 55 = .ok (.aload_n 0, 1) := by decide +kernel
theorem dX7_init_56 : decode cX7_init 56 = .ok (.aload_n 3, 1) := by decide +kernel
theorem dX7_init_57 : decode cX7_init 57 = .ok (.putfield 36, 3) := by decide +kernel
theorem dX7_init_60 : decode cX7_init 60 = .ok (.return_, 1) := by decide +kernel
theorem dX7_run_0 : decode cX7_run 0 = .ok (.aload_n 0, 1) := by decide +kernel
theorem dX7_run_1 : decode cX7_run 1 = .ok (.getfield 28, 3) := by decide +kernel
theorem dX7_run_4 : decode cX7_run 4 = .ok (.getfield 40, 3) := by decide +kernel
theorem dX7_run_7 : decode cX7_run 7 = .ok (.iconst 0, 1) := by decide +kernel
theorem dX7_run_8 : decode cX7_run 8 = .ok (.aload_n 0, 1) := by decide +kernel
theorem dX7_run_9 : decode cX7_run 9 = .ok (.getfield 9, 3) := by decide +kernel
theorem dX7_run_12 : decode cX7_run 12 = .ok (.iconst 0, 1) := by decide +kernel
theorem dX7_run_13 : decode cX7_run 13 = .ok (.bipush 8, 2) := by decide +kernel
theorem dX7_run_15 : decode cX7_run 15 = .ok (.invokestatic 43, 3) := by decide +kernel
theorem dX7_run_18 : decode cX7_run 18 = .ok (.aload_n 0, 1) := by decide +kernel
theorem dX7_run_19 : decode cX7_run 19 = .ok (.aload_n 0, 1) := by decide +kernel
theorem dX7_run_20 : decode cX7_run 20 = .ok (.getfield 9, 3) := by decide +kernel
theorem dX7_run_23 : decode cX7_run 23 = .ok (.invokestatic 49, 3) := by decide +kernel
theorem dX7_run_26 : decode cX7_run 26 = .ok (.putfield 53, 3) := by decide +kernel
theorem dX7_run_29 : decode cX7_run 29 = .ok (.aload_n 0, 1) := by decide +kernel
theorem dX7_run_30 : decode cX7_run 30 = .ok (.iconst 0, 1) := by decide +kernel
theorem dX7_run_31 : decode cX7_run 31 = .ok (.putfield 57, 3) := by decide +kernel
theorem dX7_run_34 : decode cX7_run 34 = .ok (.iconst 0, 1) := by decide +kernel
theorem dX7_run_35 : decode cX7_run 35 = .ok (.istore_n 3, 1) := by decide +kernel
theorem dX7_run_36 : decode cX7_run 36 = .ok (.iload_n 3, 1) := by decide +kernel
theorem dX7_run_37 : decode cX7_run 37 = .ok (.bipush 20, 2) := by decide +kernel
theorem dX7_run_39 : decode cX7_run 39 = .ok (.if_icmp .ge 108, 3) := by decide +kernel
theorem dX7_run_42 : decode cX7_run 42 = .ok (.aload_n 0, 1) := by decide +kernel
theorem dX7_run_43 : decode cX7_run 43 = .ok (.getfield 25, 3) := by decide +kernel
theorem dX7_run_46 : decode cX7_run 46 = .ok (.iload_n 3, 1) := by decide +kernel
theorem dX7_run_47 : decode cX7_run 47 = .ok (.aload_n 0, 1) := by decide +kernel
theorem dX7_run_48 : decode cX7_run 48 = .ok (.aload_n 1, 1) := by decide +kernel
theorem dX7_run_49 : decode cX7_run 49 = .ok (.iload_n 2, 1) := by decide +kernel
theorem dX7_run_50 : decode cX7_run 50 = .ok (.iload_n 3, 1) := by decide +kernel
theorem dX7_run_51 : decode cX7_run 51 = .ok (.invokevirtual 61, 3) := by decide +kernel
theorem dX7_run_54 : decode cX7_run 54 = .ok (.iastore, 1) := by decide +kernel
theorem dX7_run_55 : decode cX7_run 55 = .ok (.aload_n 0, 1) := by decide +kernel
theorem dX7_run_56 : decode cX7_run 56 = .ok (.iload_n 3, 1) := by decide +kernel
theorem dX7_run_57 : decode cX7_run 57 = .ok (.invokevirtual 65, 3) := by decide +kernel
theorem dX7_run_60 : decode cX7_run 60 = .ok (.istore 4, 2) := by decide +kernel
theorem dX7_run_62 : decode cX7_run 62 = .ok (.aload_n 0, 1) := by decide +kernel
theorem dX7_run_63 : decode cX7_run 63 = .ok (.getfield 9, 3) := by decide +kernel
theorem dX7_run_66 : decode cX7_run 66 = .ok (.iconst 0, 1) := by decide +kernel
theorem dX7_run_67 : decode cX7_run 67 = .ok (.aload_n 0, 1) := by decide +kernel
theorem dX7_run_68 : decode cX7_run 68 = .ok (.getfield 15, 3) := by decide +kernel
theorem dX7_run_71 : decode cX7_run 71 = .ok (.bipush 8, 2) := by decide +kernel
theorem dX7_run_73 : decode cX7_run 73 = .ok (.iload_n 3, 1) := by decide +kernel
theorem dX7_run_74 : decode cX7_run 74 = .ok (.imul, 1) := by decide +kernel
theorem dX7_run_75 : decode cX7_run 75 = .ok (.bipush 8, 2) := by decide +kernel
theorem dX7_run_77 : decode cX7_run 77 = .ok (.invokestatic 43, 3) := by decide +kernel
theorem dX7_run_80 : decode cX7_run 80 = .ok (.aload_n 0, 1) := by decide +kernel
theorem dX7_run_81 : decode cX7_run 81 = .ok (.getfield 18, 3) := by decide +kernel
theorem dX7_run_84 : decode cX7_run 84 = .ok (.iload_n 3, 1) := by decide +kernel
theorem dX7_run_85 : decode cX7_run 85 = .ok (.aload_n 0, 1) := by decide +kernel
theorem dX7_run_86 : decode cX7_run 86 = .ok (.getfield 53, 3) := by decide +kernel
theorem dX7_run_89 : decode cX7_run 89 = .ok (.lastore, 1) := by decide +kernel
theorem dX7_run_90 : decode cX7_run 90 = .ok (.iload_n 3, 1) := by decide +kernel
theorem dX7_run_91 : decode cX7_run 91 = .ok (.ifCond .le 21, 3) := by decide +kernel
theorem dX7_run_94 : decode cX7_run 94 = .ok (.aload_n 0, 1) := by decide +kernel
theorem dX7_run_95 : decode cX7_run 95 = .ok (.getfield 25, 3) := by decide +kernel
theorem dX7_run_98 : decode cX7_run 98 = .ok (.iload_n 3, 1) := by decide +kernel
theorem dX7_run_99 : decode cX7_run 99 = .ok (.iaload, 1) := by decide +kernel
theorem dX7_run_100 : decode cX7_run 100 = .ok (.ifCond .ne 12, 3) := by decide +kernel
theorem dX7_run_103 : decode cX7_run 103 = .ok (.iload 4, 2) := by decide +kernel
theorem dX7_run_105 : decode cX7_run 105 = .ok (.ifCond .ne 7, 3) := by decide +kernel
theorem dX7_run_108 : decode cX7_run 108 = .ok (.iconst 1, 1) := by decide +kernel
theorem dX7_run_109 : decode cX7_run 109 = .ok (.goto 4, 3) := by decide +kernel
theorem dX7_run_112 : decode cX7_run 112 = .ok (.iconst 0, 1) := by decide +kernel
theorem dX7_run_113 : decode cX7_run 113 = .ok (.istore 5, 2) := by decide +kernel
theorem dX7_run_115 : decode cX7_run 115 = .ok (.aload_n 0, 1) := by decide +kernel
theorem dX7_run_116 : decode cX7_run 116 = .ok (.getfield 21, 3) := by decide +kernel
theorem dX7_run_119 : decode cX7_run 119 = .ok (.iload_n 3, 1) := by decide +kernel
theorem dX7_run_120 : decode cX7_run 120 = .ok (.iload 5, 2) := by decide +kernel
theorem dX7_run_122 : decode cX7_run 122 = .ok (.ifCond .eq 14, 3) := by decide +kernel
theorem dX7_run_125 : decode cX7_run 125 = .ok (.aload_n 0, 1) := by decide +kernel
theorem dX7_run_126 : decode cX7_run 126 = .ok (.getfield 21, 3) := by decide +kernel
theorem dX7_run_129 : decode cX7_run 129 = .ok (.iload_n 3, 1) := by decide +kernel
theorem dX7_run_130 : decode cX7_run 130 = .ok (.iconst 1, 1) := by decide +kernel
theorem dX7_run_131 : decode cX7_run 131 = .ok (.isub, 1) := by decide +kernel
theorem dX7_run_132 : decode cX7_run 132 = .ok (.iaload, 1) := by decide +kernel
theorem dX7_run_133 : decode cX7_run 133 = .ok (.goto 7, 3) := by decide +kernel
theorem dX7_run_136 : decode cX7_run 136 = .ok (.aload_n 0, 1) := by decide +kernel
theorem dX7_run_137 : decode cX7_run 137 = .ok (.invokevirtual 69, 3) := by decide +kernel
theorem dX7_run_140 : decode cX7_run 140 = .ok (.iastore, 1) := by decide +kernel
theorem dX7_run_141 : decode cX7_run 141 = .ok (.iinc 3 1, 3) := by decide +kernel
theorem dX7_run_144 : decode cX7_run 144 = .ok (.goto (-108), 3) := by decide +kernel
theorem dX7_run_147 : decode cX7_run 147 = .ok (.return_, 1) := by decide +kernel
theorem dX7_freeze_0 : decode cX7_freeze 0 = .ok (.iconst 0, 1) := by decide +kernel
theorem dX7_freeze_1 : decode cX7_freeze 1 = .ok (.istore 4, 2) := by decide +kernel
theorem dX7_freeze_3 : decode cX7_freeze 3 = .ok (.iconst 0, 1) := by decide +kernel
theorem dX7_freeze_4 : decode cX7_freeze 4 = .ok (.istore 5, 2) := by decide +kernel
theorem dX7_freeze_6 : decode cX7_freeze 6 = .ok (.iconst 0, 1) := by decide +kernel
theorem dX7_freeze_7 : decode cX7_freeze 7 = .ok (.istore 6, 2) := by decide +kernel
theorem dX7_freeze_9 : decode cX7_freeze 9 = .ok (.iload 6, 2) := by decide +kernel
theorem dX7_freeze_11 : decode cX7_freeze 11 = .ok (.aload_n 1, 1) := by decide +kernel
theorem dX7_freeze_12 : decode cX7_freeze 12 = .ok (.getfield 73, 3) := by decide +kernel
theorem dX7_freeze_15 : decode cX7_freeze 15 = .ok (.if_icmp .ge 88, 3) := by decide +kernel
theorem dX7_freeze_18 : decode cX7_freeze 18 = .ok (.aload_n 1, 1) := by decide +kernel
theorem dX7_freeze_19 : decode cX7_freeze 19 = .ok (.getfield 78, 3) := by decide +kernel
theorem dX7_freeze_22 : decode cX7_freeze 22 = .ok (.iload 6, 2) := by decide +kernel
theorem dX7_freeze_24 : decode cX7_freeze 24 = .ok (.iaload, 1) := by decide +kernel
theorem dX7_freeze_25 : decode cX7_freeze 25 = .ok (.iload_n 3, 1) := by decide +kernel
theorem dX7_freeze_26 : decode cX7_freeze 26 = .ok (.if_icmp .ne 71, 3) := by decide +kernel
theorem dX7_freeze_29 : decode cX7_freeze 29 = .ok (.iload_n 2, 1) := by decide +kernel
theorem dX7_freeze_30 : decode cX7_freeze 30 = .ok (.iload 6, 2) := by decide +kernel
theorem dX7_freeze_32 : decode cX7_freeze 32 = .ok (.iushr, 1) := by decide +kernel
theorem dX7_freeze_33 : decode cX7_freeze 33 = .ok (.iconst 1, 1) := by decide +kernel
theorem dX7_freeze_34 : decode cX7_freeze 34 = .ok (.iand, 1) := by decide +kernel
theorem dX7_freeze_35 : decode cX7_freeze 35 = .ok (.ifCond .ne 62, 3) := by decide +kernel
theorem dX7_freeze_38 : decode cX7_freeze 38 = .ok (.lconst 0, 1) := by decide +kernel
theorem dX7_freeze_39 : decode cX7_freeze 39 = .ok (.lstore 7, 2) := by decide +kernel
theorem dX7_freeze_41 : decode cX7_freeze 41 = .ok (.iconst 0, 1) := by decide +kernel
theorem dX7_freeze_42 : decode cX7_freeze 42 = .ok (.istore 9, 2) := by decide +kernel
theorem dX7_freeze_44 : decode cX7_freeze 44 = .ok (.iload 9, 2) := by decide +kernel
theorem dX7_freeze_46 : decode cX7_freeze 46 = .ok (.aload_n 0, 1) := by decide +kernel
theorem dX7_freeze_47 : decode cX7_freeze 47 = .ok (.getfield 32, 3) := by decide +kernel
theorem dX7_freeze_50 : decode cX7_freeze 50 = .ok (.getfield 81, 3) := by decide +kernel
theorem dX7_freeze_53 : decode cX7_freeze 53 = .ok (.if_icmp .ge 27, 3) := by decide +kernel
theorem dX7_freeze_56 : decode cX7_freeze 56 = .ok (.lload 7, 2) := by decide +kernel
theorem dX7_freeze_58 : decode cX7_freeze 58 = .ok (.aload_n 0, 1) := by decide +kernel
theorem dX7_freeze_59 : decode cX7_freeze 59 = .ok (.iload 9, 2) := by decide +kernel
theorem dX7_freeze_61 : decode cX7_freeze 61 = .ok (.aload_n 1, 1) := by decide +kernel
theorem dX7_freeze_62 : decode cX7_freeze 62 = .ok (.getfield 84, 3) := by decide +kernel
theorem dX7_freeze_65 : decode cX7_freeze 65 = .ok (.iload 6, 2) := by decide +kernel
theorem dX7_freeze_67 : decode cX7_freeze 67 = .ok (.iaload, 1) := by decide +kernel
theorem dX7_freeze_68 : decode cX7_freeze 68 = .ok (.invokevirtual 87, 3) := by decide +kernel
theorem dX7_freeze_71 : decode cX7_freeze 71 = .ok (.lor, 1) := by decide +kernel
theorem dX7_freeze_72 : decode cX7_freeze 72 = .ok (.lstore 7, 2) := by decide +kernel
theorem dX7_freeze_74 : decode cX7_freeze 74 = .ok (.iinc 9 1, 3) := by decide +kernel
theorem dX7_freeze_77 : decode cX7_freeze 77 = .ok (.goto (-33), 3) := by decide +kernel
theorem dX7_freeze_80 : decode cX7_freeze 80 = .ok (.iconst 1, 1) := by decide +kernel
theorem dX7_freeze_81 : decode cX7_freeze 81 = .ok (.istore 5, 2) := by decide +kernel
theorem dX7_freeze_83 : decode cX7_freeze 83 = .ok (.iload 4, 2) := by decide +kernel
theorem dX7_freeze_85 : decode cX7_freeze 85 = .ok (.aload_n 0, 1) := by decide +kernel
theorem dX7_freeze_86 : decode cX7_freeze 86 = .ok (.lload 7, 2) := by decide +kernel
theorem dX7_freeze_88 : decode cX7_freeze 88 = .ok (.invokestatic 91, 3) := by decide +kernel
theorem dX7_freeze_91 : decode cX7_freeze 91 = .ok (.invokevirtual 95, 3) := by decide +kernel
theorem dX7_freeze_94 : decode cX7_freeze 94 = .ok (.iadd, 1) := by decide +kernel
theorem dX7_freeze_95 : decode cX7_freeze 95 = .ok (.istore 4, 2) := by decide +kernel
theorem dX7_freeze_97 : decode cX7_freeze 97 = .ok (.iinc 6 1, 3) := by decide +kernel
theorem dX7_freeze_100 : decode cX7_freeze 100 = .ok (.goto (-91), 3) := by decide +kernel
theorem dX7_freeze_103 : decode cX7_freeze 103 = .ok (.iload 5, 2) := by decide +kernel
theorem dX7_freeze_105 : decode cX7_freeze 105 = .ok (.ifCond .eq 8, 3) := by decide +kernel
theorem dX7_freeze_108 : decode cX7_freeze 108 = .ok (.iload 4, 2) := by decide +kernel
theorem dX7_freeze_110 : decode cX7_freeze 110 = .ok (.goto 14, 3) := by decide +kernel
theorem dX7_freeze_113 : decode cX7_freeze 113 = .ok (.aload_n 0, 1) := by decide +kernel
theorem dX7_freeze_114 : decode cX7_freeze 114 = .ok (.aload_n 0, 1) := by decide +kernel
theorem dX7_freeze_115 : decode cX7_freeze 115 = .ok (.getfield 53, 3) := by decide +kernel
theorem dX7_freeze_118 : decode cX7_freeze 118 = .ok (.invokestatic 91, 3) := by decide +kernel
theorem dX7_freeze_121 : decode cX7_freeze 121 = .ok (.invokevirtual 95, 3) := by decide +kernel
theorem dX7_freeze_124 : decode cX7_freeze 124 = .ok (.ireturn, 1) := by decide +kernel
theorem dX7_leave_0 : decode cX7_leave 0 = .ok (.aload_n 0, 1) := by decide +kernel
theorem dX7_leave_1 : decode cX7_leave 1 = .ok (.getfield 53, 3) := by decide +kernel
theorem dX7_leave_4 : decode cX7_leave 4 = .ok (.lload_n 1, 1) := by decide +kernel
theorem dX7_leave_5 : decode cX7_leave 5 = .ok (.ldc2_w 99, 3) := by decide +kernel
theorem dX7_leave_8 : decode cX7_leave 8 = .ok (.lxor, 1) := by decide +kernel
theorem dX7_leave_9 : decode cX7_leave 9 = .ok (.land, 1) := by decide +kernel
theorem dX7_leave_10 : decode cX7_leave 10 = .ok (.lstore_n 3, 1) := by decide +kernel
theorem dX7_leave_11 : decode cX7_leave 11 = .ok (.lload_n 3, 1) := by decide +kernel
theorem dX7_leave_12 : decode cX7_leave 12 = .ok (.lconst 0, 1) := by decide +kernel
theorem dX7_leave_13 : decode cX7_leave 13 = .ok (.lcmp, 1) := by decide +kernel
theorem dX7_leave_14 : decode cX7_leave 14 = .ok (.ifCond .ne 5, 3) := by decide +kernel
theorem dX7_leave_17 : decode cX7_leave 17 = .ok (.iconst 0, 1) := by decide +kernel
theorem dX7_leave_18 : decode cX7_leave 18 = .ok (.ireturn, 1) := by decide +kernel
theorem dX7_leave_19 : decode cX7_leave 19 = .ok (.iconst 0, 1) := by decide +kernel
theorem dX7_leave_20 : decode cX7_leave 20 = .ok (.istore 5, 2) := by decide +kernel
theorem dX7_leave_22 : decode cX7_leave 22 = .ok (.iload 5, 2) := by decide +kernel
theorem dX7_leave_24 : decode cX7_leave 24 = .ok (.bipush 8, 2) := by decide +kernel
theorem dX7_leave_26 : decode cX7_leave 26 = .ok (.if_icmp .ge 47, 3) := by decide +kernel
theorem dX7_leave_29 : decode cX7_leave 29 = .ok (.aload_n 0, 1) := by decide +kernel
theorem dX7_leave_30 : decode cX7_leave 30 = .ok (.getfield 9, 3) := by decide +kernel
theorem dX7_leave_33 : decode cX7_leave 33 = .ok (.iload 5, 2) := by decide +kernel
theorem dX7_leave_35 : decode cX7_leave 35 = .ok (.laload, 1) := by decide +kernel
theorem dX7_leave_36 : decode cX7_leave 36 = .ok (.lload_n 3, 1) := by decide +kernel
theorem dX7_leave_37 : decode cX7_leave 37 = .ok (.land, 1) := by decide +kernel
theorem dX7_leave_38 : decode cX7_leave 38 = .ok (.lconst 0, 1) := by decide +kernel
theorem dX7_leave_39 : decode cX7_leave 39 = .ok (.lcmp, 1) := by decide +kernel
theorem dX7_leave_40 : decode cX7_leave 40 = .ok (.ifCond .eq 27, 3) := by decide +kernel
theorem dX7_leave_43 : decode cX7_leave 43 = .ok (.aload_n 0, 1) := by decide +kernel
theorem dX7_leave_44 : decode cX7_leave 44 = .ok (.dup, 1) := by decide +kernel
theorem dX7_leave_45 : decode cX7_leave 45 = .ok (.getfield 57, 3) := by decide +kernel
theorem dX7_leave_48 : decode cX7_leave 48 = .ok (.iconst 1, 1) := by decide +kernel
theorem dX7_leave_49 : decode cX7_leave 49 = .ok (.iload 5, 2) := by decide +kernel
theorem dX7_leave_51 : decode cX7_leave 51 = .ok (.ishl, 1) := by decide +kernel
theorem dX7_leave_52 : decode cX7_leave 52 = .ok (.ior, 1) := by decide +kernel
theorem dX7_leave_53 : decode cX7_leave 53 = .ok (.putfield 57, 3) := by decide +kernel
theorem dX7_leave_56 : decode cX7_leave 56 = .ok (.aload_n 0, 1) := by decide +kernel
theorem dX7_leave_57 : decode cX7_leave 57 = .ok (.getfield 9, 3) := by decide +kernel
theorem dX7_leave_60 : decode cX7_leave 60 = .ok (.iload 5, 2) := by decide +kernel
theorem dX7_leave_62 : decode cX7_leave 62 = .ok (.dup2, 1) := by decide +kernel
theorem dX7_leave_63 : decode cX7_leave 63 = .ok (.laload, 1) := by decide +kernel
theorem dX7_leave_64 : decode cX7_leave 64 = .ok (.lload_n 1, 1) := by decide +kernel
theorem dX7_leave_65 : decode cX7_leave 65 = .ok (.land, 1) := by decide +kernel
theorem dX7_leave_66 : decode cX7_leave 66 = .ok (.lastore, 1) := by decide +kernel
theorem dX7_leave_67 : decode cX7_leave 67 = .ok (.iinc 5 1, 3) := by decide +kernel
theorem dX7_leave_70 : decode cX7_leave 70 = .ok (.goto (-48), 3) := by decide +kernel
theorem dX7_leave_73 : decode cX7_leave 73 = .ok (.aload_n 0, 1) := by decide +kernel
theorem dX7_leave_74 : decode cX7_leave 74 = .ok (.lload_n 1, 1) := by decide +kernel
theorem dX7_leave_75 : decode cX7_leave 75 = .ok (.putfield 53, 3) := by decide +kernel
theorem dX7_leave_78 : decode cX7_leave 78 = .ok (.lload_n 3, 1) := by decide +kernel
theorem dX7_leave_79 : decode cX7_leave 79 = .ok (.invokestatic 101, 3) := by decide +kernel
theorem dX7_leave_82 : decode cX7_leave 82 = .ok (.ireturn, 1) := by decide +kernel
theorem dX7_holdingOf_0 : decode cX7_holdingOf 0 = .ok (.iload_n 1, 1) := by decide +kernel
theorem dX7_holdingOf_1 : decode cX7_holdingOf 1 = .ok (.aload_n 0, 1) := by decide +kernel
theorem dX7_holdingOf_2 : decode cX7_holdingOf 2 = .ok (.getfield 32, 3) := by decide +kernel
theorem dX7_holdingOf_5 : decode cX7_holdingOf 5 = .ok (.getfield 81, 3) := by decide +kernel
theorem dX7_holdingOf_8 : decode cX7_holdingOf 8 = .ok (.if_icmp .ge 14, 3) := by decide +kernel
theorem dX7_holdingOf_11 : decode cX7_holdingOf 11 = .ok (.aload_n 0, 1) := by decide +kernel
theorem dX7_holdingOf_12 : decode cX7_holdingOf 12 = .ok (.getfield 9, 3) := by decide +kernel
theorem dX7_holdingOf_15 : decode cX7_holdingOf 15 = .ok (.iload_n 1, 1) := by decide +kernel
theorem dX7_holdingOf_16 : decode cX7_holdingOf 16 = .ok (.laload, 1) := by decide +kernel
theorem dX7_holdingOf_17 : decode cX7_holdingOf 17 = .ok (.lconst 0, 1) := by decide +kernel
theorem dX7_holdingOf_18 : decode cX7_holdingOf 18 = .ok (.lcmp, 1) := by decide +kernel
theorem dX7_holdingOf_19 : decode cX7_holdingOf 19 = .ok (.ifCond .ne 5, 3) := by decide +kernel
theorem dX7_holdingOf_22 : decode cX7_holdingOf 22 = .ok (.lconst 0, 1) := by decide +kernel
theorem dX7_holdingOf_23 : decode cX7_holdingOf 23 = .ok (.lreturn, 1) := by decide +kernel
theorem dX7_holdingOf_24 : decode cX7_holdingOf 24 = .ok (.aload_n 0, 1) := by decide +kernel
theorem dX7_holdingOf_25 : decode cX7_holdingOf 25 = .ok (.getfield 9, 3) := by decide +kernel
theorem dX7_holdingOf_28 : decode cX7_holdingOf 28 = .ok (.iload_n 1, 1) := by decide +kernel
theorem dX7_holdingOf_29 : decode cX7_holdingOf 29 = .ok (.laload, 1) := by decide +kernel
theorem dX7_holdingOf_30 : decode cX7_holdingOf 30 = .ok (.lstore_n 3, 1) := by decide +kernel
theorem dX7_holdingOf_31 : decode cX7_holdingOf 31 = .ok (.iload_n 2, 1) := by decide +kernel
theorem dX7_holdingOf_32 : decode cX7_holdingOf 32 = .ok (.aload_n 0, 1) := by decide +kernel
theorem dX7_holdingOf_33 : decode cX7_holdingOf 33 = .ok (.getfield 32, 3) := by decide +kernel
theorem dX7_holdingOf_36 : decode cX7_holdingOf 36 = .ok (.getfield 106, 3) := by decide +kernel
theorem dX7_holdingOf_39 : decode cX7_holdingOf 39 = .ok (.iload_n 1, 1) := by decide +kernel
theorem dX7_holdingOf_40 : decode cX7_holdingOf 40 = .ok (.iaload, 1) := by decide +kernel
theorem dX7_holdingOf_41 : decode cX7_holdingOf 41 = .ok (.isub, 1) := by decide +kernel
theorem dX7_holdingOf_42 : decode cX7_holdingOf 42 = .ok (.istore 5, 2) := by decide +kernel
theorem dX7_holdingOf_44 : decode cX7_holdingOf 44 = .ok (.lconst 0, 1) := by decide +kernel
theorem dX7_holdingOf_45 : decode cX7_holdingOf 45 = .ok (.lstore 6, 2) := by decide +kernel
theorem dX7_holdingOf_47 : decode cX7_holdingOf 47 = .ok (.aload_n 0, 1) := by decide +kernel
theorem dX7_holdingOf_48 : decode cX7_holdingOf 48 = .ok (.getfield 32, 3) := by decide +kernel
theorem dX7_holdingOf_51 : decode cX7_holdingOf 51 = .ok (.getfield 109, 3) := by decide +kernel
theorem dX7_holdingOf_54 : decode cX7_holdingOf 54 = .ok (.iload_n 1, 1) := by decide +kernel
theorem dX7_holdingOf_55 : decode cX7_holdingOf 55 = .ok (.iaload, 1) := by decide +kernel
theorem dX7_holdingOf_56 : decode cX7_holdingOf 56 = .ok (.tableswitch 160 1 3 #[28, 82, 118], 28) := by decide +kernel
theorem dX7_holdingOf_84 : decode cX7_holdingOf 84 = .ok (.iconst 0, 1) := by decide +kernel
theorem dX7_holdingOf_85 : decode cX7_holdingOf 85 = .ok (.istore 8, 2) := by decide +kernel
theorem dX7_holdingOf_87 : decode cX7_holdingOf 87 = .ok (.iload 8, 2) := by decide +kernel
theorem dX7_holdingOf_89 : decode cX7_holdingOf 89 = .ok (.iconst 4, 1) := by decide +kernel
theorem dX7_holdingOf_90 : decode cX7_holdingOf 90 = .ok (.if_icmp .gt 45, 3) := by decide +kernel
theorem dX7_holdingOf_93 : decode cX7_holdingOf 93 = .ok (.lload 6, 2) := by decide +kernel
theorem dX7_holdingOf_95 : decode cX7_holdingOf 95 = .ok (.lload_n 3, 1) := by decide +kernel
theorem dX7_holdingOf_96 : decode cX7_holdingOf 96 = .ok (.iload 5, 2) := by decide +kernel
theorem dX7_holdingOf_98 : decode cX7_holdingOf 98 = .ok (.iload 8, 2) := by decide +kernel
theorem dX7_holdingOf_100 : decode cX7_holdingOf 100 = .ok (.iadd, 1) := by decide +kernel
theorem dX7_holdingOf_101 : decode cX7_holdingOf 101 = .ok (.invokestatic 112, 3) := by decide +kernel
theorem dX7_holdingOf_104 : decode cX7_holdingOf 104 = .ok (.aload_n 0, 1) := by decide +kernel
theorem dX7_holdingOf_105 : decode cX7_holdingOf 105 = .ok (.getfield 53, 3) := by decide +kernel
theorem dX7_holdingOf_108 : decode cX7_holdingOf 108 = .ok (.lload_n 3, 1) := by decide +kernel
theorem dX7_holdingOf_109 : decode cX7_holdingOf 109 = .ok (.ldc2_w 99, 3) := by decide +kernel
theorem dX7_holdingOf_112 : decode cX7_holdingOf 112 = .ok (.lxor, 1) := by decide +kernel
theorem dX7_holdingOf_113 : decode cX7_holdingOf 113 = .ok (.land, 1) := by decide +kernel
theorem dX7_holdingOf_114 : decode cX7_holdingOf 114 = .ok (.iload 8, 2) := by decide +kernel
theorem dX7_holdingOf_116 : decode cX7_holdingOf 116 = .ok (.iconst 1, 1) := by decide +kernel
theorem dX7_holdingOf_117 : decode cX7_holdingOf 117 = .ok (.iadd, 1) := by decide +kernel
theorem dX7_holdingOf_118 : decode cX7_holdingOf 118 = .ok (.invokestatic 112, 3) := by decide +kernel
theorem dX7_holdingOf_121 : decode cX7_holdingOf 121 = .ok (.ldc2_w 99, 3) := by decide +kernel
theorem dX7_holdingOf_124 : decode cX7_holdingOf 124 = .ok (.lxor, 1) := by decide +kernel
theorem dX7_holdingOf_125 : decode cX7_holdingOf 125 = .ok (.land, 1) := by decide +kernel
theorem dX7_holdingOf_126 : decode cX7_holdingOf 126 = .ok (.lor, 1) := by decide +kernel
theorem dX7_holdingOf_127 : decode cX7_holdingOf 127 = .ok (.lstore 6, 2) := by decide +kernel
theorem dX7_holdingOf_129 : decode cX7_holdingOf 129 = .ok (.iinc 8 1, 3) := by decide +kernel
theorem dX7_holdingOf_132 : decode cX7_holdingOf 132 = .ok (.goto (-45), 3) := by decide +kernel
theorem dX7_holdingOf_135 : decode cX7_holdingOf 135 = .ok (.goto 89, 3) := by decide +kernel
theorem dX7_holdingOf_138 : decode cX7_holdingOf 138 = .ok (.lload_n 3, 1) := by decide +kernel
theorem dX7_holdingOf_139 : decode cX7_holdingOf 139 = .ok (.iload 5, 2) := by decide +kernel
theorem dX7_holdingOf_141 : decode cX7_holdingOf 141 = .ok (.invokestatic 112, 3) := by decide +kernel
theorem dX7_holdingOf_144 : decode cX7_holdingOf 144 = .ok (.lload_n 3, 1) := by decide +kernel
theorem dX7_holdingOf_145 : decode cX7_holdingOf 145 = .ok (.iload 5, 2) := by decide +kernel
theorem dX7_holdingOf_147 : decode cX7_holdingOf 147 = .ok (.iconst 2, 1) := by decide +kernel
theorem dX7_holdingOf_148 : decode cX7_holdingOf 148 = .ok (.isub, 1) := by decide +kernel
theorem dX7_holdingOf_149 : decode cX7_holdingOf 149 = .ok (.invokestatic 112, 3) := by decide +kernel
theorem dX7_holdingOf_152 : decode cX7_holdingOf 152 = .ok (.aload_n 0, 1) := by decide +kernel
theorem dX7_holdingOf_153 : decode cX7_holdingOf 153 = .ok (.iconst 2, 1) := by decide +kernel
theorem dX7_holdingOf_154 : decode cX7_holdingOf 154 = .ok (.invokevirtual 116, 3) := by decide +kernel
theorem dX7_holdingOf_157 : decode cX7_holdingOf 157 = .ok (.lload_n 3, 1) := by decide +kernel
theorem dX7_holdingOf_158 : decode cX7_holdingOf 158 = .ok (.ldc2_w 99, 3) := by decide +kernel
theorem dX7_holdingOf_161 : decode cX7_holdingOf 161 = .ok (.lxor, 1) := by decide +kernel
theorem dX7_holdingOf_162 : decode cX7_holdingOf 162 = .ok (.land, 1) := by decide +kernel
theorem dX7_holdingOf_163 : decode cX7_holdingOf 163 = .ok (.iconst 1, 1) := by decide +kernel
theorem dX7_holdingOf_164 : decode cX7_holdingOf 164 = .ok (.invokestatic 112, 3) := by decide +kernel
theorem dX7_holdingOf_167 : decode cX7_holdingOf 167 = .ok (.land, 1) := by decide +kernel
theorem dX7_holdingOf_168 : decode cX7_holdingOf 168 = .ok (.lor, 1) := by decide +kernel
theorem dX7_holdingOf_169 : decode cX7_holdingOf 169 = .ok (.lstore 6, 2) := by decide +kernel
theorem dX7_holdingOf_171 : decode cX7_holdingOf 171 = .ok (.goto 53, 3) := by decide +kernel
theorem dX7_holdingOf_174 : decode cX7_holdingOf 174 = .ok (.iconst 0, 1) := by decide +kernel
theorem dX7_holdingOf_175 : decode cX7_holdingOf 175 = .ok (.istore 8, 2) := by decide +kernel
theorem dX7_holdingOf_177 : decode cX7_holdingOf 177 = .ok (.iload 8, 2) := by decide +kernel
theorem dX7_holdingOf_179 : decode cX7_holdingOf 179 = .ok (.iconst 5, 1) := by decide +kernel
theorem dX7_holdingOf_180 : decode cX7_holdingOf 180 = .ok (.if_icmp .ge 33, 3) := by decide +kernel
theorem dX7_holdingOf_183 : decode cX7_holdingOf 183 = .ok (.lload 6, 2) := by decide +kernel
theorem dX7_holdingOf_185 : decode cX7_holdingOf 185 = .ok (.lload_n 3, 1) := by decide +kernel
theorem dX7_holdingOf_186 : decode cX7_holdingOf 186 = .ok (.iload 5, 2) := by decide +kernel
theorem dX7_holdingOf_188 : decode cX7_holdingOf 188 = .ok (.iload 8, 2) := by decide +kernel
theorem dX7_holdingOf_190 : decode cX7_holdingOf 190 = .ok (.iadd, 1) := by decide +kernel
theorem dX7_holdingOf_191 : decode cX7_holdingOf 191 = .ok (.invokestatic 112, 3) := by decide +kernel
theorem dX7_holdingOf_194 : decode cX7_holdingOf 194 = .ok (.ldc2_w 120, 3) := by decide +kernel
theorem dX7_holdingOf_197 : decode cX7_holdingOf 197 = .ok (.bipush 8, 2) := by decide +kernel
theorem dX7_holdingOf_199 : decode cX7_holdingOf 199 = .ok (.iload 8, 2) := by decide +kernel
theorem dX7_holdingOf_201 : decode cX7_holdingOf 201 = .ok (.imul, 1) := by decide +kernel
theorem dX7_holdingOf_202 : decode cX7_holdingOf 202 = .ok (.lshl, 1) := by decide +kernel
theorem dX7_holdingOf_203 : decode cX7_holdingOf 203 = .ok (.land, 1) := by decide +kernel
theorem dX7_holdingOf_204 : decode cX7_holdingOf 204 = .ok (.lor, 1) := by decide +kernel
theorem dX7_holdingOf_205 : decode cX7_holdingOf 205 = .ok (.lstore 6, 2) := by decide +kernel
theorem dX7_holdingOf_207 : decode cX7_holdingOf 207 = .ok (.iinc 8 1, 3) := by decide +kernel
theorem dX7_holdingOf_210 : decode cX7_holdingOf 210 = .ok (.goto (-33), 3) := by decide +kernel
theorem dX7_holdingOf_213 : decode cX7_holdingOf 213 = .ok (.goto 11, 3) := by decide +kernel
theorem dX7_holdingOf_216 : decode cX7_holdingOf 216 = .ok (.lload_n 3, 1) := by decide +kernel
theorem dX7_holdingOf_217 : decode cX7_holdingOf 217 = .ok (.iload 5, 2) := by decide +kernel
theorem dX7_holdingOf_219 : decode cX7_holdingOf 219 = .ok (.invokestatic 112, 3) := by decide +kernel
theorem dX7_holdingOf_222 : decode cX7_holdingOf 222 = .ok (.lstore 6, 2) := by decide +kernel
theorem dX7_holdingOf_224 : decode cX7_holdingOf 224 = .ok (.lload_n 3, 1) := by decide +kernel
theorem dX7_holdingOf_225 : decode cX7_holdingOf 225 = .ok (.lload 6, 2) := by decide +kernel
theorem dX7_holdingOf_227 : decode cX7_holdingOf 227 = .ok (.land, 1) := by decide +kernel
theorem dX7_holdingOf_228 : decode cX7_holdingOf 228 = .ok (.lreturn, 1) := by decide +kernel
theorem dX7_nowOf_0 : decode cX7_nowOf 0 = .ok (.lconst 0, 1) := by decide +kernel
theorem dX7_nowOf_1 : decode cX7_nowOf 1 = .ok (.lstore_n 2, 1) := by decide +kernel
theorem dX7_nowOf_2 : decode cX7_nowOf 2 = .ok (.iconst 0, 1) := by decide +kernel
theorem dX7_nowOf_3 : decode cX7_nowOf 3 = .ok (.istore 4, 2) := by decide +kernel
theorem dX7_nowOf_5 : decode cX7_nowOf 5 = .ok (.iload 4, 2) := by decide +kernel
theorem dX7_nowOf_7 : decode cX7_nowOf 7 = .ok (.aload_n 0, 1) := by decide +kernel
theorem dX7_nowOf_8 : decode cX7_nowOf 8 = .ok (.getfield 32, 3) := by decide +kernel
theorem dX7_nowOf_11 : decode cX7_nowOf 11 = .ok (.getfield 81, 3) := by decide +kernel
theorem dX7_nowOf_14 : decode cX7_nowOf 14 = .ok (.if_icmp .ge 33, 3) := by decide +kernel
theorem dX7_nowOf_17 : decode cX7_nowOf 17 = .ok (.aload_n 0, 1) := by decide +kernel
theorem dX7_nowOf_18 : decode cX7_nowOf 18 = .ok (.getfield 32, 3) := by decide +kernel
theorem dX7_nowOf_21 : decode cX7_nowOf 21 = .ok (.getfield 109, 3) := by decide +kernel
theorem dX7_nowOf_24 : decode cX7_nowOf 24 = .ok (.iload 4, 2) := by decide +kernel
theorem dX7_nowOf_26 : decode cX7_nowOf 26 = .ok (.iaload, 1) := by decide +kernel
theorem dX7_nowOf_27 : decode cX7_nowOf 27 = .ok (.iload_n 1, 1) := by decide +kernel
theorem dX7_nowOf_28 : decode cX7_nowOf 28 = .ok (.if_icmp .ne 13, 3) := by decide +kernel
theorem dX7_nowOf_31 : decode cX7_nowOf 31 = .ok (.lload_n 2, 1) := by decide +kernel
theorem dX7_nowOf_32 : decode cX7_nowOf 32 = .ok (.aload_n 0, 1) := by decide +kernel
theorem dX7_nowOf_33 : decode cX7_nowOf 33 = .ok (.getfield 9, 3) := by decide +kernel
theorem dX7_nowOf_36 : decode cX7_nowOf 36 = .ok (.iload 4, 2) := by decide +kernel
theorem dX7_nowOf_38 : decode cX7_nowOf 38 = .ok (.laload, 1) := by decide +kernel
theorem dX7_nowOf_39 : decode cX7_nowOf 39 = .ok (.lor, 1) := by decide +kernel
theorem dX7_nowOf_40 : decode cX7_nowOf 40 = .ok (.lstore_n 2, 1) := by decide +kernel
theorem dX7_nowOf_41 : decode cX7_nowOf 41 = .ok (.iinc 4 1, 3) := by decide +kernel
theorem dX7_nowOf_44 : decode cX7_nowOf 44 = .ok (.goto (-39), 3) := by decide +kernel
theorem dX7_nowOf_47 : decode cX7_nowOf 47 = .ok (.lload_n 2, 1) := by decide +kernel
theorem dX7_nowOf_48 : decode cX7_nowOf 48 = .ok (.lreturn, 1) := by decide +kernel
theorem dX7_fillGaps_0 : decode cX7_fillGaps 0 = .ok (.iconst 0, 1) := by decide +kernel
theorem dX7_fillGaps_1 : decode cX7_fillGaps 1 = .ok (.istore_n 2, 1) := by decide +kernel
theorem dX7_fillGaps_2 : decode cX7_fillGaps 2 = .ok (.iconst 0, 1) := by decide +kernel
theorem dX7_fillGaps_3 : decode cX7_fillGaps 3 = .ok (.istore_n 3, 1) := by decide +kernel
theorem dX7_fillGaps_4 : decode cX7_fillGaps 4 = .ok (.iload_n 3, 1) := by decide +kernel
theorem dX7_fillGaps_5 : decode cX7_fillGaps 5 = .ok (.aload_n 0, 1) := by decide +kernel
theorem dX7_fillGaps_6 : decode cX7_fillGaps 6 = .ok (.getfield 36, 3) := by decide +kernel
theorem dX7_fillGaps_9 : decode cX7_fillGaps 9 = .ok (.getfield 122, 3) := by decide +kernel
theorem dX7_fillGaps_12 : decode cX7_fillGaps 12 = .ok (.if_icmp .ge 66, 3) := by decide +kernel
theorem dX7_fillGaps_15 : decode cX7_fillGaps 15 = .ok (.aload_n 0, 1) := by decide +kernel
theorem dX7_fillGaps_16 : decode cX7_fillGaps 16 = .ok (.getfield 36, 3) := by decide +kernel
theorem dX7_fillGaps_19 : decode cX7_fillGaps 19 = .ok (.getfield 125, 3) := by decide +kernel
theorem dX7_fillGaps_22 : decode cX7_fillGaps 22 = .ok (.iload_n 3, 1) := by decide +kernel
theorem dX7_fillGaps_23 : decode cX7_fillGaps 23 = .ok (.iaload, 1) := by decide +kernel
theorem dX7_fillGaps_24 : decode cX7_fillGaps 24 = .ok (.iload_n 1, 1) := by decide +kernel
theorem dX7_fillGaps_25 : decode cX7_fillGaps 25 = .ok (.if_icmp .ne 47, 3) := by decide +kernel
theorem dX7_fillGaps_28 : decode cX7_fillGaps 28 = .ok (.aload_n 0, 1) := by decide +kernel
theorem dX7_fillGaps_29 : decode cX7_fillGaps 29 = .ok (.getfield 36, 3) := by decide +kernel
theorem dX7_fillGaps_32 : decode cX7_fillGaps 32 = .ok (.getfield 126, 3) := by decide +kernel
theorem dX7_fillGaps_35 : decode cX7_fillGaps 35 = .ok (.iload_n 3, 1) := by decide +kernel
theorem dX7_fillGaps_36 : decode cX7_fillGaps 36 = .ok (.iaload, 1) := by decide +kernel
theorem dX7_fillGaps_37 : decode cX7_fillGaps 37 = .ok (.aload_n 0, 1) := by decide +kernel
theorem dX7_fillGaps_38 : decode cX7_fillGaps 38 = .ok (.getfield 28, 3) := by decide +kernel
theorem dX7_fillGaps_41 : decode cX7_fillGaps 41 = .ok (.getfield 129, 3) := by decide +kernel
theorem dX7_fillGaps_44 : decode cX7_fillGaps 44 = .ok (.if_icmp .ge 28, 3) := by decide +kernel
theorem dX7_fillGaps_47 : decode cX7_fillGaps 47 = .ok (.iload_n 2, 1) := by decide +kernel
theorem dX7_fillGaps_48 : decode cX7_fillGaps 48 = .ok (.aload_n 0, 1) := by decide +kernel
theorem dX7_fillGaps_49 : decode cX7_fillGaps 49 = .ok (.aload_n 0, 1) := by decide +kernel
theorem dX7_fillGaps_50 : decode cX7_fillGaps 50 = .ok (.getfield 36, 3) := by decide +kernel
theorem dX7_fillGaps_53 : decode cX7_fillGaps 53 = .ok (.getfield 126, 3) := by decide +kernel
theorem dX7_fillGaps_56 : decode cX7_fillGaps 56 = .ok (.iload_n 3, 1) := by decide +kernel
theorem dX7_fillGaps_57 : decode cX7_fillGaps 57 = .ok (.iaload, 1) := by decide +kernel
theorem dX7_fillGaps_58 : decode cX7_fillGaps 58 = .ok (.aload_n 0, 1) := by decide +kernel
theorem dX7_fillGaps_59 : decode cX7_fillGaps 59 = .ok (.getfield 36, 3) := by decide +kernel
theorem dX7_fillGaps_62 : decode cX7_fillGaps 62 = .ok (.getfield 132, 3) := by decide +kernel
theorem dX7_fillGaps_65 : decode cX7_fillGaps 65 = .ok (.iload_n 3, 1) := by decide +kernel
theorem dX7_fillGaps_66 : decode cX7_fillGaps 66 = .ok (.iaload, 1) := by decide +kernel
theorem dX7_fillGaps_67 : decode cX7_fillGaps 67 = .ok (.invokevirtual 135, 3) := by decide +kernel
theorem dX7_fillGaps_70 : decode cX7_fillGaps 70 = .ok (.ior, 1) := by decide +kernel
theorem dX7_fillGaps_71 : decode cX7_fillGaps 71 = .ok (.istore_n 2, 1) := by decide +kernel
theorem dX7_fillGaps_72 : decode cX7_fillGaps 72 = .ok (.iinc 3 1, 3) := by decide +kernel
theorem dX7_fillGaps_75 : decode cX7_fillGaps 75 = .ok (.goto (-71), 3) := by decide +kernel
theorem dX7_fillGaps_78 : decode cX7_fillGaps 78 = .ok (.iload_n 2, 1) := by decide +kernel
theorem dX7_fillGaps_79 : decode cX7_fillGaps 79 = .ok (.ireturn, 1) := by decide +kernel
theorem dX7_fillGap_0 : decode cX7_fillGap 0 = .ok (.iconst 0, 1) := by decide +kernel
theorem dX7_fillGap_1 : decode cX7_fillGap 1 = .ok (.istore_n 3, 1) := by decide +kernel
theorem dX7_fillGap_2 : decode cX7_fillGap 2 = .ok (.iload_n 3, 1) := by decide +kernel
theorem dX7_fillGap_3 : decode cX7_fillGap 3 = .ok (.aload_n 0, 1) := by decide +kernel
theorem dX7_fillGap_4 : decode cX7_fillGap 4 = .ok (.getfield 28, 3) := by decide +kernel
theorem dX7_fillGap_7 : decode cX7_fillGap 7 = .ok (.getfield 139, 3) := by decide +kernel
theorem dX7_fillGap_10 : decode cX7_fillGap 10 = .ok (.if_icmp .ge 55, 3) := by decide +kernel
theorem dX7_fillGap_13 : decode cX7_fillGap 13 = .ok (.lconst 1, 1) := by decide +kernel
theorem dX7_fillGap_14 : decode cX7_fillGap 14 = .ok (.bipush 8, 2) := by decide +kernel
theorem dX7_fillGap_16 : decode cX7_fillGap 16 = .ok (.iload_n 3, 1) := by decide +kernel
theorem dX7_fillGap_17 : decode cX7_fillGap 17 = .ok (.imul, 1) := by decide +kernel
theorem dX7_fillGap_18 : decode cX7_fillGap 18 = .ok (.iload_n 1, 1) := by decide +kernel
theorem dX7_fillGap_19 : decode cX7_fillGap 19 = .ok (.iadd, 1) := by decide +kernel
theorem dX7_fillGap_20 : decode cX7_fillGap 20 = .ok (.lshl, 1) := by decide +kernel
theorem dX7_fillGap_21 : decode cX7_fillGap 21 = .ok (.lstore 4, 2) := by decide +kernel
theorem dX7_fillGap_23 : decode cX7_fillGap 23 = .ok (.aload_n 0, 1) := by decide +kernel
theorem dX7_fillGap_24 : decode cX7_fillGap 24 = .ok (.getfield 53, 3) := by decide +kernel
theorem dX7_fillGap_27 : decode cX7_fillGap 27 = .ok (.lload 4, 2) := by decide +kernel
theorem dX7_fillGap_29 : decode cX7_fillGap 29 = .ok (.land, 1) := by decide +kernel
theorem dX7_fillGap_30 : decode cX7_fillGap 30 = .ok (.lconst 0, 1) := by decide +kernel
theorem dX7_fillGap_31 : decode cX7_fillGap 31 = .ok (.lcmp, 1) := by decide +kernel
theorem dX7_fillGap_32 : decode cX7_fillGap 32 = .ok (.ifCond .ne 27, 3) := by decide +kernel
theorem dX7_fillGap_35 : decode cX7_fillGap 35 = .ok (.aload_n 0, 1) := by decide +kernel
theorem dX7_fillGap_36 : decode cX7_fillGap 36 = .ok (.getfield 9, 3) := by decide +kernel
theorem dX7_fillGap_39 : decode cX7_fillGap 39 = .ok (.iload_n 2, 1) := by decide +kernel
theorem dX7_fillGap_40 : decode cX7_fillGap 40 = .ok (.dup2, 1) := by decide +kernel
theorem dX7_fillGap_41 : decode cX7_fillGap 41 = .ok (.laload, 1) := by decide +kernel
theorem dX7_fillGap_42 : decode cX7_fillGap 42 = .ok (.lload 4, 2) := by decide +kernel
theorem dX7_fillGap_44 : decode cX7_fillGap 44 = .ok (.lor, 1) := by decide +kernel
theorem dX7_fillGap_45 : decode cX7_fillGap 45 = .ok (.lastore, 1) := by decide +kernel
theorem dX7_fillGap_46 : decode cX7_fillGap 46 = .ok (.aload_n 0, 1) := by decide +kernel
theorem dX7_fillGap_47 : decode cX7_fillGap 47 = .ok (.dup, 1) := by decide +kernel
theorem dX7_fillGap_48 : decode cX7_fillGap 48 = .ok (.getfield 53, 3) := by decide +kernel
theorem dX7_fillGap_51 : decode cX7_fillGap 51 = .ok (.lload 4, 2) := by decide +kernel
theorem dX7_fillGap_53 : decode cX7_fillGap 53 = .ok (.lor, 1) := by decide +kernel
theorem dX7_fillGap_54 : decode cX7_fillGap 54 = .ok (.putfield 53, 3) := by decide +kernel
theorem dX7_fillGap_57 : decode cX7_fillGap 57 = .ok (.iconst 1, 1) := by decide +kernel
theorem dX7_fillGap_58 : decode cX7_fillGap 58 = .ok (.ireturn, 1) := by decide +kernel
theorem dX7_fillGap_59 : decode cX7_fillGap 59 = .ok (.iinc 3 1, 3) := by decide +kernel
theorem dX7_fillGap_62 : decode cX7_fillGap 62 = .ok (.goto (-60), 3) := by decide +kernel
theorem dX7_fillGap_65 : decode cX7_fillGap 65 = .ok (.iconst 0, 1) := by decide +kernel
theorem dX7_fillGap_66 : decode cX7_fillGap 66 = .ok (.ireturn, 1) := by decide +kernel
theorem dX7_openColumns_0 : decode cX7_openColumns 0 = .ok (.aload_n 0, 1) := by decide +kernel
theorem dX7_openColumns_1 : decode cX7_openColumns 1 = .ok (.iconst 2, 1) := by decide +kernel
theorem dX7_openColumns_2 : decode cX7_openColumns 2 = .ok (.invokevirtual 116, 3) := by decide +kernel
theorem dX7_openColumns_5 : decode cX7_openColumns 5 = .ok (.lstore_n 1, 1) := by decide +kernel
theorem dX7_openColumns_6 : decode cX7_openColumns 6 = .ok (.aload_n 0, 1) := by decide +kernel
theorem dX7_openColumns_7 : decode cX7_openColumns 7 = .ok (.iconst 1, 1) := by decide +kernel
theorem dX7_openColumns_8 : decode cX7_openColumns 8 = .ok (.invokevirtual 116, 3) := by decide +kernel
theorem dX7_openColumns_11 : decode cX7_openColumns 11 = .ok (.lstore_n 3, 1) := by decide +kernel
theorem dX7_openColumns_12 : decode cX7_openColumns 12 = .ok (.iconst 0, 1) := by decide +kernel
theorem dX7_openColumns_13 : decode cX7_openColumns 13 = .ok (.istore 5, 2) := by decide +kernel
theorem dX7_openColumns_15 : decode cX7_openColumns 15 = .ok (.iconst 0, 1) := by decide +kernel
theorem dX7_openColumns_16 : decode cX7_openColumns 16 = .ok (.istore 6, 2) := by decide +kernel
theorem dX7_openColumns_18 : decode cX7_openColumns 18 = .ok (.iload 6, 2) := by decide +kernel
theorem dX7_openColumns_20 : decode cX7_openColumns 20 = .ok (.aload_n 0, 1) := by decide +kernel
theorem dX7_openColumns_21 : decode cX7_openColumns 21 = .ok (.getfield 28, 3) := by decide +kernel
theorem dX7_openColumns_24 : decode cX7_openColumns 24 = .ok (.getfield 129, 3) := by decide +kernel
theorem dX7_openColumns_27 : decode cX7_openColumns 27 = .ok (.if_icmp .ge 80, 3) := by decide +kernel
theorem dX7_openColumns_30 : decode cX7_openColumns 30 = .ok (.ldc2_w 142, 3) := by decide +kernel
theorem dX7_openColumns_33 : decode cX7_openColumns 33 = .ok (.iload 6, 2) := by decide +kernel
theorem dX7_openColumns_35 : decode cX7_openColumns 35 = .ok (.lshl, 1) := by decide +kernel
theorem dX7_openColumns_36 : decode cX7_openColumns 36 = .ok (.lstore 7, 2) := by decide +kernel
theorem dX7_openColumns_38 : decode cX7_openColumns 38 = .ok (.lload_n 1, 1) := by decide +kernel
theorem dX7_openColumns_39 : decode cX7_openColumns 39 = .ok (.lload 7, 2) := by decide +kernel
theorem dX7_openColumns_41 : decode cX7_openColumns 41 = .ok (.land, 1) := by decide +kernel
theorem dX7_openColumns_42 : decode cX7_openColumns 42 = .ok (.lconst 0, 1) := by decide +kernel
theorem dX7_openColumns_43 : decode cX7_openColumns 43 = .ok (.lcmp, 1) := by decide +kernel
theorem dX7_openColumns_44 : decode cX7_openColumns 44 = .ok (.ifCond .ne 13, 3) := by decide +kernel
theorem dX7_openColumns_47 : decode cX7_openColumns 47 = .ok (.aload_n 0, 1) := by decide +kernel
theorem dX7_openColumns_48 : decode cX7_openColumns 48 = .ok (.getfield 28, 3) := by decide +kernel
theorem dX7_openColumns_51 : decode cX7_openColumns 51 = .ok (.getfield 144, 3) := by decide +kernel
theorem dX7_openColumns_54 : decode cX7_openColumns 54 = .ok (.goto 12, 3) := by decide +kernel
theorem dX7_openColumns_57 : decode cX7_openColumns 57 = .ok (.aload_n 0, 1) := by decide +kernel
theorem dX7_openColumns_58 : decode cX7_openColumns 58 = .ok (.getfield 28, 3) := by decide +kernel
theorem dX7_openColumns_61 : decode cX7_openColumns 61 = .ok (.getfield 144, 3) := by decide +kernel
theorem dX7_openColumns_64 : decode cX7_openColumns 64 = .ok (.iconst 1, 1) := by decide +kernel
theorem dX7_openColumns_65 : decode cX7_openColumns 65 = .ok (.iadd, 1) := by decide +kernel
theorem dX7_openColumns_66 : decode cX7_openColumns 66 = .ok (.istore 9, 2) := by decide +kernel
theorem dX7_openColumns_68 : decode cX7_openColumns 68 = .ok (.lload_n 3, 1) := by decide +kernel
theorem dX7_openColumns_69 : decode cX7_openColumns 69 = .ok (.lload 7, 2) := by decide +kernel
theorem dX7_openColumns_71 : decode cX7_openColumns 71 = .ok (.land, 1) := by decide +kernel
theorem dX7_openColumns_72 : decode cX7_openColumns 72 = .ok (.lconst 0, 1) := by decide +kernel
theorem dX7_openColumns_73 : decode cX7_openColumns 73 = .ok (.lcmp, 1) := by decide +kernel
theorem dX7_openColumns_74 : decode cX7_openColumns 74 = .ok (.ifCond .ne 27, 3) := by decide +kernel
theorem dX7_openColumns_77 : decode cX7_openColumns 77 = .ok (.aload_n 0, 1) := by decide +kernel
theorem dX7_openColumns_78 : decode cX7_openColumns 78 = .ok (.getfield 53, 3) := by decide +kernel
theorem dX7_openColumns_81 : decode cX7_openColumns 81 = .ok (.lload 7, 2) := by decide +kernel
theorem dX7_openColumns_83 : decode cX7_openColumns 83 = .ok (.land, 1) := by decide +kernel
theorem dX7_openColumns_84 : decode cX7_openColumns 84 = .ok (.invokestatic 101, 3) := by decide +kernel
theorem dX7_openColumns_87 : decode cX7_openColumns 87 = .ok (.iload 9, 2) := by decide +kernel
theorem dX7_openColumns_89 : decode cX7_openColumns 89 = .ok (.if_icmp .ge 12, 3) := by decide +kernel
theorem dX7_openColumns_92 : decode cX7_openColumns 92 = .ok (.iload 5, 2) := by decide +kernel
theorem dX7_openColumns_94 : decode cX7_openColumns 94 = .ok (.iconst 1, 1) := by decide +kernel
theorem dX7_openColumns_95 : decode cX7_openColumns 95 = .ok (.iload 6, 2) := by decide +kernel
theorem dX7_openColumns_97 : decode cX7_openColumns 97 = .ok (.ishl, 1) := by decide +kernel
theorem dX7_openColumns_98 : decode cX7_openColumns 98 = .ok (.ior, 1) := by decide +kernel
theorem dX7_openColumns_99 : decode cX7_openColumns 99 = .ok (.istore 5, 2) := by decide +kernel
theorem dX7_openColumns_101 : decode cX7_openColumns 101 = .ok (.iinc 6 1, 3) := by decide +kernel
theorem dX7_openColumns_104 : decode cX7_openColumns 104 = .ok (.goto (-86), 3) := by decide +kernel
theorem dX7_openColumns_107 : decode cX7_openColumns 107 = .ok (.iload 5, 2) := by decide +kernel
theorem dX7_openColumns_109 : decode cX7_openColumns 109 = .ok (.ireturn, 1) := by decide +kernel
theorem dX7_setterBehind_0 : decode cX7_setterBehind 0 = .ok (.aload_n 0, 1) := by decide +kernel
theorem dX7_setterBehind_1 : decode cX7_setterBehind 1 = .ok (.getfield 15, 3) := by decide +kernel
theorem dX7_setterBehind_4 : decode cX7_setterBehind 4 = .ok (.bipush 8, 2) := by decide +kernel
theorem dX7_setterBehind_6 : decode cX7_setterBehind 6 = .ok (.iload_n 1, 1) := by decide +kernel
theorem dX7_setterBehind_7 : decode cX7_setterBehind 7 = .ok (.imul, 1) := by decide +kernel
theorem dX7_setterBehind_8 : decode cX7_setterBehind 8 = .ok (.iload_n 2, 1) := by decide +kernel
theorem dX7_setterBehind_9 : decode cX7_setterBehind 9 = .ok (.invokestatic 147, 3) := by decide +kernel
theorem dX7_setterBehind_12 : decode cX7_setterBehind 12 = .ok (.ireturn, 1) := by decide +kernel
theorem dX7_holdBehind_0 : decode cX7_holdBehind 0 = .ok (.aload_n 0, 1) := by decide +kernel
theorem dX7_holdBehind_1 : decode cX7_holdBehind 1 = .ok (.iload_n 1, 1) := by decide +kernel
theorem dX7_holdBehind_2 : decode cX7_holdBehind 2 = .ok (.iload_n 2, 1) := by decide +kernel
theorem dX7_holdBehind_3 : decode cX7_holdBehind 3 = .ok (.invokevirtual 151, 3) := by decide +kernel
theorem dX7_holdBehind_6 : decode cX7_holdBehind 6 = .ok (.istore_n 3, 1) := by decide +kernel
theorem dX7_holdBehind_7 : decode cX7_holdBehind 7 = .ok (.iload_n 3, 1) := by decide +kernel
theorem dX7_holdBehind_8 : decode cX7_holdBehind 8 = .ok (.iconst (-1), 1) := by decide +kernel
theorem dX7_holdBehind_9 : decode cX7_holdBehind 9 = .ok (.if_icmp .ne 5, 3) := by decide +kernel
theorem dX7_holdBehind_12 : decode cX7_holdBehind 12 = .ok (.iconst (-1), 1) := by decide +kernel
theorem dX7_holdBehind_13 : decode cX7_holdBehind 13 = .ok (.ireturn, 1) := by decide +kernel
theorem dX7_holdBehind_14 : decode cX7_holdBehind 14 = .ok (.aload_n 0, 1) := by decide +kernel
theorem dX7_holdBehind_15 : decode cX7_holdBehind 15 = .ok (.getfield 15, 3) := by decide +kernel
theorem dX7_holdBehind_18 : decode cX7_holdBehind 18 = .ok (.bipush 8, 2) := by decide +kernel
theorem dX7_holdBehind_20 : decode cX7_holdBehind 20 = .ok (.iload_n 1, 1) := by decide +kernel
theorem dX7_holdBehind_21 : decode cX7_holdBehind 21 = .ok (.imul, 1) := by decide +kernel
theorem dX7_holdBehind_22 : decode cX7_holdBehind 22 = .ok (.aload_n 0, 1) := by decide +kernel
theorem dX7_holdBehind_23 : decode cX7_holdBehind 23 = .ok (.getfield 9, 3) := by decide +kernel
theorem dX7_holdBehind_26 : decode cX7_holdBehind 26 = .ok (.iconst 0, 1) := by decide +kernel
theorem dX7_holdBehind_27 : decode cX7_holdBehind 27 = .ok (.bipush 8, 2) := by decide +kernel
theorem dX7_holdBehind_29 : decode cX7_holdBehind 29 = .ok (.invokestatic 43, 3) := by decide +kernel
theorem dX7_holdBehind_32 : decode cX7_holdBehind 32 = .ok (.aload_n 0, 1) := by decide +kernel
theorem dX7_holdBehind_33 : decode cX7_holdBehind 33 = .ok (.aload_n 0, 1) := by decide +kernel
theorem dX7_holdBehind_34 : decode cX7_holdBehind 34 = .ok (.getfield 18, 3) := by decide +kernel
theorem dX7_holdBehind_37 : decode cX7_holdBehind 37 = .ok (.iload_n 1, 1) := by decide +kernel
theorem dX7_holdBehind_38 : decode cX7_holdBehind 38 = .ok (.laload, 1) := by decide +kernel
theorem dX7_holdBehind_39 : decode cX7_holdBehind 39 = .ok (.putfield 53, 3) := by decide +kernel
theorem dX7_holdBehind_42 : decode cX7_holdBehind 42 = .ok (.iconst 0, 1) := by decide +kernel
theorem dX7_holdBehind_43 : decode cX7_holdBehind 43 = .ok (.istore 4, 2) := by decide +kernel
theorem dX7_holdBehind_45 : decode cX7_holdBehind 45 = .ok (.iconst 1, 1) := by decide +kernel
theorem dX7_holdBehind_46 : decode cX7_holdBehind 46 = .ok (.istore 5, 2) := by decide +kernel
theorem dX7_holdBehind_48 : decode cX7_holdBehind 48 = .ok (.iload 5, 2) := by decide +kernel
theorem dX7_holdBehind_50 : decode cX7_holdBehind 50 = .ok (.bipush 15, 2) := by decide +kernel
theorem dX7_holdBehind_52 : decode cX7_holdBehind 52 = .ok (.if_icmp .gt 27, 3) := by decide +kernel
theorem dX7_holdBehind_55 : decode cX7_holdBehind 55 = .ok (.aload_n 0, 1) := by decide +kernel
theorem dX7_holdBehind_56 : decode cX7_holdBehind 56 = .ok (.iload_n 3, 1) := by decide +kernel
theorem dX7_holdBehind_57 : decode cX7_holdBehind 57 = .ok (.iload 5, 2) := by decide +kernel
theorem dX7_holdBehind_59 : decode cX7_holdBehind 59 = .ok (.invokevirtual 87, 3) := by decide +kernel
theorem dX7_holdBehind_62 : decode cX7_holdBehind 62 = .ok (.iload_n 2, 1) := by decide +kernel
theorem dX7_holdBehind_63 : decode cX7_holdBehind 63 = .ok (.invokestatic 155, 3) := by decide +kernel
theorem dX7_holdBehind_66 : decode cX7_holdBehind 66 = .ok (.ifCond .eq 7, 3) := by decide +kernel
theorem dX7_holdBehind_69 : decode cX7_holdBehind 69 = .ok (.iload 5, 2) := by decide +kernel
theorem dX7_holdBehind_71 : decode cX7_holdBehind 71 = .ok (.istore 4, 2) := by decide +kernel
theorem dX7_holdBehind_73 : decode cX7_holdBehind 73 = .ok (.iinc 5 1, 3) := by decide +kernel
theorem dX7_holdBehind_76 : decode cX7_holdBehind 76 = .ok (.goto (-28), 3) := by decide +kernel
theorem dX7_holdBehind_79 : decode cX7_holdBehind 79 = .ok (.iload 4, 2) := by decide +kernel
theorem dX7_holdBehind_81 : decode cX7_holdBehind 81 = .ok (.ireturn, 1) := by decide +kernel
theorem dX7_highBehind_0 : decode cX7_highBehind 0 = .ok (.aload_n 0, 1) := by decide +kernel
theorem dX7_highBehind_1 : decode cX7_highBehind 1 = .ok (.getfield 18, 3) := by decide +kernel
theorem dX7_highBehind_4 : decode cX7_highBehind 4 = .ok (.iload_n 1, 1) := by decide +kernel
theorem dX7_highBehind_5 : decode cX7_highBehind 5 = .ok (.laload, 1) := by decide +kernel
theorem dX7_highBehind_6 : decode cX7_highBehind 6 = .ok (.ldc2_w 142, 3) := by decide +kernel
theorem dX7_highBehind_9 : decode cX7_highBehind 9 = .ok (.iload_n 2, 1) := by decide +kernel
theorem dX7_highBehind_10 : decode cX7_highBehind 10 = .ok (.lshl, 1) := by decide +kernel
theorem dX7_highBehind_11 : decode cX7_highBehind 11 = .ok (.land, 1) := by decide +kernel
theorem dX7_highBehind_12 : decode cX7_highBehind 12 = .ok (.invokestatic 101, 3) := by decide +kernel
theorem dX7_highBehind_15 : decode cX7_highBehind 15 = .ok (.ireturn, 1) := by decide +kernel
theorem dX7_lastingOf_0 : decode cX7_lastingOf 0 = .ok (.aload_n 0, 1) := by decide +kernel
theorem dX7_lastingOf_1 : decode cX7_lastingOf 1 = .ok (.getfield 15, 3) := by decide +kernel
theorem dX7_lastingOf_4 : decode cX7_lastingOf 4 = .ok (.sipush 152, 3) := by decide +kernel
theorem dX7_lastingOf_7 : decode cX7_lastingOf 7 = .ok (.iload_n 1, 1) := by decide +kernel
theorem dX7_lastingOf_8 : decode cX7_lastingOf 8 = .ok (.iadd, 1) := by decide +kernel
theorem dX7_lastingOf_9 : decode cX7_lastingOf 9 = .ok (.laload, 1) := by decide +kernel
theorem dX7_lastingOf_10 : decode cX7_lastingOf 10 = .ok (.invokestatic 101, 3) := by decide +kernel
theorem dX7_lastingOf_13 : decode cX7_lastingOf 13 = .ok (.ireturn, 1) := by decide +kernel
theorem dX7_firstOpenYear_0 : decode cX7_firstOpenYear 0 = .ok (.iconst 0, 1) := by decide +kernel
theorem dX7_firstOpenYear_1 : decode cX7_firstOpenYear 1 = .ok (.istore_n 1, 1) := by decide +kernel
theorem dX7_firstOpenYear_2 : decode cX7_firstOpenYear 2 = .ok (.iload_n 1, 1) := by decide +kernel
theorem dX7_firstOpenYear_3 : decode cX7_firstOpenYear 3 = .ok (.bipush 20, 2) := by decide +kernel
theorem dX7_firstOpenYear_5 : decode cX7_firstOpenYear 5 = .ok (.if_icmp .ge 20, 3) := by decide +kernel
theorem dX7_firstOpenYear_8 : decode cX7_firstOpenYear 8 = .ok (.aload_n 0, 1) := by decide +kernel
theorem dX7_firstOpenYear_9 : decode cX7_firstOpenYear 9 = .ok (.getfield 21, 3) := by decide +kernel
theorem dX7_firstOpenYear_12 : decode cX7_firstOpenYear 12 = .ok (.iload_n 1, 1) := by decide +kernel
theorem dX7_firstOpenYear_13 : decode cX7_firstOpenYear 13 = .ok (.iaload, 1) := by decide +kernel
theorem dX7_firstOpenYear_14 : decode cX7_firstOpenYear 14 = .ok (.ifCond .eq 5, 3) := by decide +kernel
theorem dX7_firstOpenYear_17 : decode cX7_firstOpenYear 17 = .ok (.iload_n 1, 1) := by decide +kernel
theorem dX7_firstOpenYear_18 : decode cX7_firstOpenYear 18 = .ok (.ireturn, 1) := by decide +kernel
theorem dX7_firstOpenYear_19 : decode cX7_firstOpenYear 19 = .ok (.iinc 1 1, 3) := by decide +kernel
theorem dX7_firstOpenYear_22 : decode cX7_firstOpenYear 22 = .ok (.goto (-20), 3) := by decide +kernel
theorem dX7_firstOpenYear_25 : decode cX7_firstOpenYear 25 = .ok (.iconst (-1), 1) := by decide +kernel
theorem dX7_firstOpenYear_26 : decode cX7_firstOpenYear 26 = .ok (.ireturn, 1) := by decide +kernel
theorem dX7_openYears_0 : decode cX7_openYears 0 = .ok (.iconst 0, 1) := by decide +kernel
theorem dX7_openYears_1 : decode cX7_openYears 1 = .ok (.istore_n 1, 1) := by decide +kernel
theorem dX7_openYears_2 : decode cX7_openYears 2 = .ok (.iconst 0, 1) := by decide +kernel
theorem dX7_openYears_3 : decode cX7_openYears 3 = .ok (.istore_n 2, 1) := by decide +kernel
theorem dX7_openYears_4 : decode cX7_openYears 4 = .ok (.iload_n 2, 1) := by decide +kernel
theorem dX7_openYears_5 : decode cX7_openYears 5 = .ok (.bipush 20, 2) := by decide +kernel
theorem dX7_openYears_7 : decode cX7_openYears 7 = .ok (.if_icmp .ge 21, 3) := by decide +kernel
theorem dX7_openYears_10 : decode cX7_openYears 10 = .ok (.aload_n 0, 1) := by decide +kernel
theorem dX7_openYears_11 : decode cX7_openYears 11 = .ok (.getfield 21, 3) := by decide +kernel
theorem dX7_openYears_14 : decode cX7_openYears 14 = .ok (.iload_n 2, 1) := by decide +kernel
theorem dX7_openYears_15 : decode cX7_openYears 15 = .ok (.iaload, 1) := by decide +kernel
theorem dX7_openYears_16 : decode cX7_openYears 16 = .ok (.ifCond .eq 6, 3) := by decide +kernel
theorem dX7_openYears_19 : decode cX7_openYears 19 = .ok (.iinc 1 1, 3) := by decide +kernel
theorem dX7_openYears_22 : decode cX7_openYears 22 = .ok (.iinc 2 1, 3) := by decide +kernel
theorem dX7_openYears_25 : decode cX7_openYears 25 = .ok (.goto (-21), 3) := by decide +kernel
theorem dX7_openYears_28 : decode cX7_openYears 28 = .ok (.iload_n 1, 1) := by decide +kernel
theorem dX7_openYears_29 : decode cX7_openYears 29 = .ok (.ireturn, 1) := by decide +kernel
theorem dX7_allFallen_0 : decode cX7_allFallen 0 = .ok (.iconst 0, 1) := by decide +kernel
theorem dX7_allFallen_1 : decode cX7_allFallen 1 = .ok (.istore_n 1, 1) := by decide +kernel
theorem dX7_allFallen_2 : decode cX7_allFallen 2 = .ok (.iconst 0, 1) := by decide +kernel
theorem dX7_allFallen_3 : decode cX7_allFallen 3 = .ok (.istore_n 2, 1) := by decide +kernel
theorem dX7_allFallen_4 : decode cX7_allFallen 4 = .ok (.iload_n 2, 1) := by decide +kernel
theorem dX7_allFallen_5 : decode cX7_allFallen 5 = .ok (.bipush 20, 2) := by decide +kernel
theorem dX7_allFallen_7 : decode cX7_allFallen 7 = .ok (.if_icmp .ge 18, 3) := by decide +kernel
theorem dX7_allFallen_10 : decode cX7_allFallen 10 = .ok (.iload_n 1, 1) := by decide +kernel
theorem dX7_allFallen_11 : decode cX7_allFallen 11 = .ok (.aload_n 0, 1) := by decide +kernel
theorem dX7_allFallen_12 : decode cX7_allFallen 12 = .ok (.getfield 25, 3) := by decide +kernel
theorem dX7_allFallen_15 : decode cX7_allFallen 15 = .ok (.iload_n 2, 1) := by decide +kernel
theorem dX7_allFallen_16 : decode cX7_allFallen 16 = .ok (.iaload, 1) := by decide +kernel
theorem dX7_allFallen_17 : decode cX7_allFallen 17 = .ok (.iadd, 1) := by decide +kernel
theorem dX7_allFallen_18 : decode cX7_allFallen 18 = .ok (.istore_n 1, 1) := by decide +kernel
theorem dX7_allFallen_19 : decode cX7_allFallen 19 = .ok (.iinc 2 1, 3) := by decide +kernel
theorem dX7_allFallen_22 : decode cX7_allFallen 22 = .ok (.goto (-18), 3) := by decide +kernel
theorem dX7_allFallen_25 : decode cX7_allFallen 25 = .ok (.iload_n 1, 1) := by decide +kernel
theorem dX7_allFallen_26 : decode cX7_allFallen 26 = .ok (.ireturn, 1) := by decide +kernel
theorem dX7_tallyInto_0 : decode cX7_tallyInto 0 = .ok (.iconst 0, 1) := by decide +kernel
theorem dX7_tallyInto_1 : decode cX7_tallyInto 1 = .ok (.istore_n 3, 1) := by decide +kernel
theorem dX7_tallyInto_2 : decode cX7_tallyInto 2 = .ok (.iload_n 3, 1) := by decide +kernel
theorem dX7_tallyInto_3 : decode cX7_tallyInto 3 = .ok (.bipush 20, 2) := by decide +kernel
theorem dX7_tallyInto_5 : decode cX7_tallyInto 5 = .ok (.if_icmp .ge 31, 3) := by decide +kernel
theorem dX7_tallyInto_8 : decode cX7_tallyInto 8 = .ok (.iload_n 2, 1) := by decide +kernel
theorem dX7_tallyInto_9 : decode cX7_tallyInto 9 = .ok (.iload_n 3, 1) := by decide +kernel
theorem dX7_tallyInto_10 : decode cX7_tallyInto 10 = .ok (.iadd, 1) := by decide +kernel
theorem dX7_tallyInto_11 : decode cX7_tallyInto 11 = .ok (.aload_n 1, 1) := by decide +kernel
theorem dX7_tallyInto_12 : decode cX7_tallyInto 12 = .ok (.arraylength, 1) := by decide +kernel
theorem dX7_tallyInto_13 : decode cX7_tallyInto 13 = .ok (.if_icmp .ge 23, 3) := by decide +kernel
theorem dX7_tallyInto_16 : decode cX7_tallyInto 16 = .ok (.aload_n 1, 1) := by decide +kernel
theorem dX7_tallyInto_17 : decode cX7_tallyInto 17 = .ok (.iload_n 2, 1) := by decide +kernel
theorem dX7_tallyInto_18 : decode cX7_tallyInto 18 = .ok (.iload_n 3, 1) := by decide +kernel
theorem dX7_tallyInto_19 : decode cX7_tallyInto 19 = .ok (.iadd, 1) := by decide +kernel
theorem dX7_tallyInto_20 : decode cX7_tallyInto 20 = .ok (.aload_n 0, 1) := by decide +kernel
theorem dX7_tallyInto_21 : decode cX7_tallyInto 21 = .ok (.getfield 18, 3) := by decide +kernel
theorem dX7_tallyInto_24 : decode cX7_tallyInto 24 = .ok (.iload_n 3, 1) := by decide +kernel
theorem dX7_tallyInto_25 : decode cX7_tallyInto 25 = .ok (.laload, 1) := by decide +kernel
theorem dX7_tallyInto_26 : decode cX7_tallyInto 26 = .ok (.invokestatic 101, 3) := by decide +kernel
theorem dX7_tallyInto_29 : decode cX7_tallyInto 29 = .ok (.iastore, 1) := by decide +kernel
theorem dX7_tallyInto_30 : decode cX7_tallyInto 30 = .ok (.iinc 3 1, 3) := by decide +kernel
theorem dX7_tallyInto_33 : decode cX7_tallyInto 33 = .ok (.goto (-31), 3) := by decide +kernel
theorem dX7_tallyInto_36 : decode cX7_tallyInto 36 = .ok (.return_, 1) := by decide +kernel
theorem dX8_init_0 : decode cX8_init 0 = .ok (.aload_n 0, 1) := by decide +kernel
theorem dX8_init_1 : decode cX8_init 1 = .ok (.invokespecial 3, 3) := by decide +kernel
theorem dX8_init_4 : decode cX8_init 4 = .ok (.aload_n 0, 1) := by decide +kernel
theorem dX8_init_5 : decode cX8_init 5 = .ok (.new 9, 3) := by decide +kernel
theorem dX8_init_8 : decode cX8_init 8 = .ok (.dup, 1) := by decide +kernel
theorem dX8_init_9 : decode cX8_init 9 = .ok (.bipush 44, 2) := by decide +kernel
theorem dX8_init_11 : decode cX8_init 11 = .ok (.invokespecial 11, 3) := by decide +kernel
theorem dX8_init_14 : decode cX8_init 14 = .ok (.putfield 14, 3) := by decide +kernel
theorem dX8_init_17 : decode cX8_init 17 = .ok (.aload_n 0, 1) := by decide +kernel
theorem dX8_init_18 : decode cX8_init 18 = .ok (.new 9, 3) := by decide +kernel
theorem dX8_init_21 : decode cX8_init 21 = .ok (.dup, 1) := by decide +kernel
theorem dX8_init_22 : decode cX8_init 22 = .ok (.bipush 23, 2) := by decide +kernel
theorem dX8_init_24 : decode cX8_init 24 = .ok (.invokespecial 11, 3) := by decide +kernel
theorem dX8_init_27 : decode cX8_init 27 = .ok (.putfield 18, 3) := by decide +kernel
theorem dX8_init_30 : decode cX8_init 30 = .ok (.aload_n 0, 1) := by decide +kernel
theorem dX8_init_31 : decode cX8_init 31 = .ok (.new 21, 3) := by decide +kernel
theorem dX8_init_34 : decode cX8_init 34 = .ok (.dup, 1) := by decide +kernel
theorem dX8_init_35 : decode cX8_init 35 = .ok (.invokespecial 23, 3) := by decide +kernel
theorem dX8_init_38 : decode cX8_init 38 = .ok (.putfield 24, 3) := by decide +kernel
theorem dX8_init_41 : decode cX8_init 41 = .ok (.aload_n 0, 1) := by decide +kernel
theorem dX8_init_42 : decode cX8_init 42 = .ok (.new 28, 3) := by decide +kernel
theorem dX8_init_45 : decode cX8_init 45 = .ok (.dup, 1) := by decide +kernel
theorem dX8_init_46 : decode cX8_init 46 = .ok (.invokespecial 30, 3) := by decide +kernel
theorem dX8_init_49 : decode cX8_init 49 = .ok (.putfield 31, 3) := by decide +kernel
theorem dX8_init_52 : decode cX8_init 52 = .ok (.aload_n 0, 1) := by decide +kernel
theorem dX8_init_53 : decode cX8_init 53 = .ok (.new 35, 3) := by decide +kernel
theorem dX8_init_56 : decode cX8_init 56 = .ok (.dup, 1) := by decide +kernel
theorem dX8_init_57 : decode cX8_init 57 = .ok (.invokespecial 37, 3) := by decide +kernel
theorem dX8_init_60 : decode cX8_init 60 = .ok (.putfield 38, 3) := by decide +kernel
theorem dX8_init_63 : decode cX8_init 63 = .ok (.aload_n 0, 1) := by decide +kernel
theorem dX8_init_64 : decode cX8_init 64 = .ok (.new 35, 3) := by decide +kernel
theorem dX8_init_67 : decode cX8_init 67 = .ok (.dup, 1) := by decide +kernel
theorem dX8_init_68 : decode cX8_init 68 = .ok (.invokespecial 37, 3) := by decide +kernel
theorem dX8_init_71 : decode cX8_init 71 = .ok (.putfield 42, 3) := by decide +kernel
theorem dX8_init_74 : decode cX8_init 74 = .ok (.aload_n 0, 1) := by decide +kernel
theorem dX8_init_75 : decode cX8_init 75 = .ok (.new 45, 3) := by decide +kernel
theorem dX8_init_78 : decode cX8_init 78 = .ok (.dup, 1) := by decide +kernel
theorem dX8_init_79 : decode cX8_init 79 = .ok (.invokespecial 47, 3) := by decide +kernel
theorem dX8_init_82 : decode cX8_init 82 = .ok (.putfield 48, 3) := by decide +kernel
theorem dX8_init_85 : decode cX8_init 85 = .ok (.aload_n 0, 1) := by decide +kernel
theorem dX8_init_86 : decode cX8_init 86 = .ok (.new 52, 3) := by decide +kernel
theorem dX8_init_89 : decode cX8_init 89 = .ok (.dup, 1) := by decide +kernel
theorem dX8_init_90 : decode cX8_init 90 = .ok (.invokespecial 54, 3) := by decide +kernel
theorem dX8_init_93 : decode cX8_init 93 = .ok (.putfield 55, 3) := by decide +kernel
theorem dX8_init_96 : decode cX8_init 96 = .ok (.aload_n 0, 1) := by decide +kernel
theorem dX8_init_97 : decode cX8_init 97 = .ok (.iconst 4, 1) := by decide +kernel
theorem dX8_init_98 : decode cX8_init 98 = .ok (.anewarray 59, 3) := by decide +kernel
theorem dX8_init_101 : decode cX8_init 101 = .ok (.putfield 61, 3) := by decide +kernel
theorem dX8_init_104 : decode cX8_init 104 = .ok (.aload_n 0, 1) := by decide +kernel
theorem dX8_init_105 : decode cX8_init 105 = .ok (.new 65, 3) := by decide +kernel
theorem dX8_init_108 : decode cX8_init 108 = .ok (.dup, 1) := by decide +kernel
theorem dX8_init_109 : decode cX8_init 109 = .ok (.aload_n 0, 1) := by decide +kernel
theorem dX8_init_110 : decode cX8_init 110 = .ok (.getfield 24, 3) := by decide +kernel
theorem dX8_init_113 : decode cX8_init 113 = .ok (.aload_n 0, 1) := by decide +kernel
theorem dX8_init_114 : decode cX8_init 114 = .ok (.getfield 31, 3) := by decide +kernel
theorem dX8_init_117 : decode cX8_init 117 = .ok (.aload_n 0, 1) := by decide +kernel
theorem dX8_init_118 : decode cX8_init 118 = .ok (.getfield 48, 3) := by decide +kernel
theorem dX8_init_121 : decode cX8_init 121 = .ok (.invokespecial 67, 3) := by decide +kernel
theorem dX8_init_124 : decode cX8_init 124 = .ok (.putfield 70, 3) := by decide +kernel
theorem dX8_init_127 : decode cX8_init 127 = .ok (.aload_n 0, 1) := by decide +kernel
theorem dX8_init_128 : decode cX8_init 128 = .ok (.new 65, 3) := by decide +kernel
theorem dX8_init_131 : decode cX8_init 131 = .ok (.dup, 1) := by decide +kernel
theorem dX8_init_132 : decode cX8_init 132 = .ok (.aload_n 0, 1) := by decide +kernel
theorem dX8_init_133 : decode cX8_init 133 = .ok (.getfield 24, 3) := by decide +kernel
theorem dX8_init_136 : decode cX8_init 136 = .ok (.aload_n 0, 1) := by decide +kernel
theorem dX8_init_137 : decode cX8_init 137 = .ok (.getfield 31, 3) := by decide +kernel
theorem dX8_init_140 : decode cX8_init 140 = .ok (.aload_n 0, 1) := by decide +kernel
theorem dX8_init_141 : decode cX8_init 141 = .ok (.getfield 48, 3) := by decide +kernel
theorem dX8_init_144 : decode cX8_init 144 = .ok (.invokespecial 67, 3) := by decide +kernel
theorem dX8_init_147 : decode cX8_init 147 = .ok (.putfield 74, 3) := by decide +kernel
theorem dX8_init_150 : decode cX8_init 150 = .ok (.aload_n 0, 1) := by decide +kernel
theorem dX8_init_151 : decode cX8_init 151 = .ok (.sipush 180, 3) := by decide +kernel
theorem dX8_init_154 : decode cX8_init 154 = .ok (.newarray .int, 2) := by decide +kernel
theorem dX8_init_156 : decode cX8_init 156 = .ok (.putfield 77, 3) := by decide +kernel
theorem dX8_init_159 : decode cX8_init 159 = .ok (.aload_n 0, 1) := by decide +kernel
theorem dX8_init_160 : decode cX8_init 160 = .ok (.iconst 1, 1) := by decide +kernel
theorem dX8_init_161 : decode cX8_init 161 = .ok (.putfield 81, 3) := by decide +kernel
theorem dX8_init_164 : decode cX8_init 164 = .ok (.aload_n 0, 1) := by decide +kernel
theorem dX8_init_165 : decode cX8_init 165 = .ok (.iconst 0, 1) := by decide +kernel
theorem dX8_init_166 : decode cX8_init 166 = .ok (.putfield 85, 3) := by decide +kernel
theorem dX8_init_169 : decode cX8_init 169 = .ok (.iconst 0, 1) := by decide +kernel
theorem dX8_init_170 : decode cX8_init 170 = .ok (.istore_n 1, 1) := by decide +kernel
theorem dX8_init_171 : decode cX8_init 171 = .ok (.iload_n 1, 1) := by decide +kernel
theorem dX8_init_172 : decode cX8_init 172 = .ok (.iconst 4, 1) := by decide +kernel
theorem dX8_init_173 : decode cX8_init 173 = .ok (.if_icmp .ge 22, 3) := by decide +kernel
theorem dX8_init_176 : decode cX8_init 176 = .ok (.aload_n 0, 1) := by decide +kernel
theorem dX8_init_177 : decode cX8_init 177 = .ok (.getfield 61, 3) := by decide +kernel
theorem dX8_init_180 : decode cX8_init 180 = .ok (.iload_n 1, 1) := by decide +kernel
theorem dX8_init_181 : decode cX8_init 181 = .ok (.new 59, 3) := by decide +kernel
theorem dX8_init_184 : decode cX8_init 184 = .ok (.dup, 1) := by decide +kernel
theorem dX8_init_185 : decode cX8_init 185 = .ok (.invokespecial 89, 3) := by decide +kernel
theorem dX8_init_188 : decode cX8_init 188 = .ok (.aastore, 1) := by decide +kernel
theorem dX8_init_189 : decode cX8_init 189 = .ok (.iinc 1 1, 3) := by decide +kernel
theorem dX8_init_192 : decode cX8_init 192 = .ok (.goto (-21), 3) := by decide +kernel
theorem dX8_init_195 : decode cX8_init 195 = .ok (.return_, 1) := by decide +kernel
theorem dX8_type_0 : decode cX8_type 0 = .ok (.iload_n 1, 1) := by decide +kernel
theorem dX8_type_1 : decode cX8_type 1 = .ok (.invokestatic 90, 3) := by decide +kernel
theorem dX8_type_4 : decode cX8_type 4 = .ok (.ifCond .eq 14, 3) := by decide +kernel
theorem dX8_type_7 : decode cX8_type 7 = .ok (.iload_n 2, 1) := by decide +kernel
theorem dX8_type_8 : decode cX8_type 8 = .ok (.iconst 0, 1) := by decide +kernel
theorem dX8_type_9 : decode cX8_type 9 = .ok (.sipush 255, 3) := by decide +kernel
theorem dX8_type_12 : decode cX8_type 12 = .ok (.invokestatic 94, 3) := by decide +kernel
theorem dX8_type_15 : decode cX8_type 15 = .ok (.ifCond .ne 6, 3) := by decide +kernel
theorem dX8_type_18 : decode cX8_type 18 = .ok (.bipush (-2), 2) := by decide +kernel
theorem dX8_type_20 : decode cX8_type 20 = .ok (.ireturn, 1) := by decide +kernel
theorem dX8_type_21 : decode cX8_type 21 = .ok (.aload_n 0, 1) := by decide +kernel
theorem dX8_type_22 : decode cX8_type 22 = .ok (.iload_n 1, 1) := by decide +kernel
theorem dX8_type_23 : decode cX8_type 23 = .ok (.invokevirtual 98, 3) := by decide +kernel
theorem dX8_type_26 : decode cX8_type 26 = .ok (.astore_n 3, 1) := by decide +kernel
theorem dX8_type_27 : decode cX8_type 27 = .ok (.aload_n 3, 1) := by decide +kernel
theorem dX8_type_28 : decode cX8_type 28 = .ok (.getfield 102, 3) := by decide +kernel
theorem dX8_type_31 : decode cX8_type 31 = .ok (.aload_n 3, 1) := by decide +kernel
theorem dX8_type_32 : decode cX8_type 32 = .ok (.getfield 105, 3) := by decide +kernel
theorem dX8_type_35 : decode cX8_type 35 = .ok (.arraylength, 1) := by decide +kernel
theorem dX8_type_36 : decode cX8_type 36 = .ok (.if_icmp .lt 6, 3) := by decide +kernel
theorem dX8_type_39 : decode cX8_type 39 = .ok (.bipush (-4), 2) := by decide +kernel
theorem dX8_type_41 : decode cX8_type 41 = .ok (.ireturn, 1) := by decide +kernel
theorem dX8_type_42 : decode cX8_type 42 = .ok (.aload_n 3, 1) := by decide +kernel
theorem dX8_type_43 : decode cX8_type 43 = .ok (.getfield 105, 3) := by decide +kernel
theorem dX8_type_46 : decode cX8_type 46 = .ok (.aload_n 3, 1) := by decide +kernel
theorem dX8_type_47 : decode cX8_type 47 = .ok (.getfield 102, 3) := by decide +kernel
theorem dX8_type_50 : decode cX8_type 50 = .ok (.iload_n 2, 1) := by decide +kernel
theorem dX8_type_51 : decode cX8_type 51 = .ok (.iastore, 1) := by decide +kernel
theorem dX8_type_52 : decode cX8_type 52 = .ok (.aload_n 3, 1) := by decide +kernel
theorem dX8_type_53 : decode cX8_type 53 = .ok (.dup, 1) := by decide +kernel
theorem dX8_type_54 : decode cX8_type 54 = .ok (.getfield 102, 3) := by decide +kernel
theorem dX8_type_57 : decode cX8_type 57 = .ok (.iconst 1, 1) := by decide +kernel
theorem dX8_type_58 : decode cX8_type 58 = .ok (.iadd, 1) := by decide +kernel
theorem dX8_type_59 : decode cX8_type 59 = .ok (.putfield 102, 3) := by decide +kernel
theorem dX8_type_62 : decode cX8_type 62 = .ok (.aload_n 0, 1) := by decide +kernel
theorem dX8_type_63 : decode cX8_type 63 = .ok (.iload_n 1, 1) := by decide +kernel
theorem dX8_type_64 : decode cX8_type 64 = .ok (.invokevirtual 108, 3) := by decide +kernel
theorem dX8_type_67 : decode cX8_type 67 = .ok (.aload_n 3, 1) := by decide +kernel
theorem dX8_type_68 : decode cX8_type 68 = .ok (.getfield 102, 3) := by decide +kernel
theorem dX8_type_71 : decode cX8_type 71 = .ok (.ireturn, 1) := by decide +kernel
theorem dX8_wipe_0 : decode cX8_wipe 0 = .ok (.iload_n 1, 1) := by decide +kernel
theorem dX8_wipe_1 : decode cX8_wipe 1 = .ok (.invokestatic 90, 3) := by decide +kernel
theorem dX8_wipe_4 : decode cX8_wipe 4 = .ok (.ifCond .ne 6, 3) := by decide +kernel
theorem dX8_wipe_7 : decode cX8_wipe 7 = .ok (.bipush (-2), 2) := by decide +kernel
theorem dX8_wipe_9 : decode cX8_wipe 9 = .ok (.ireturn, 1) := by decide +kernel
theorem dX8_wipe_10 : decode cX8_wipe 10 = .ok (.aload_n 0, 1) := by decide +kernel
theorem dX8_wipe_11 : decode cX8_wipe 11 = .ok (.iload_n 1, 1) := by decide +kernel
theorem dX8_wipe_12 : decode cX8_wipe 12 = .ok (.invokevirtual 98, 3) := by decide +kernel
theorem dX8_wipe_15 : decode cX8_wipe 15 = .ok (.astore_n 2, 1) := by decide +kernel
theorem dX8_wipe_16 : decode cX8_wipe 16 = .ok (.aload_n 2, 1) := by decide +kernel
theorem dX8_wipe_17 : decode cX8_wipe 17 = .ok (.getfield 102, 3) := by decide +kernel
theorem dX8_wipe_20 : decode cX8_wipe 20 = .ok (.istore_n 3, 1) := by decide +kernel
theorem dX8_wipe_21 : decode cX8_wipe 21 = .ok (.aload_n 2, 1) := by decide +kernel
theorem dX8_wipe_22 : decode cX8_wipe 22 = .ok (.iconst 0, 1) := by decide +kernel
theorem dX8_wipe_23 : decode cX8_wipe 23 = .ok (.putfield 102, 3) := by decide +kernel
theorem dX8_wipe_26 : decode cX8_wipe 26 = .ok (.aload_n 0, 1) := by decide +kernel
theorem dX8_wipe_27 : decode cX8_wipe 27 = .ok (.iload_n 1, 1) := by decide +kernel
theorem dX8_wipe_28 : decode cX8_wipe 28 = .ok (.invokevirtual 108, 3) := by decide +kernel
theorem dX8_wipe_31 : decode cX8_wipe 31 = .ok (.iload_n 3, 1) := by decide +kernel
theorem dX8_wipe_32 : decode cX8_wipe 32 = .ok (.ireturn, 1) := by decide +kernel
theorem dX8_undo_0 : decode cX8_undo 0 = .ok (.iload_n 1, 1) := by decide +kernel
theorem dX8_undo_1 : decode cX8_undo 1 = .ok (.invokestatic 90, 3) := by decide +kernel
theorem dX8_undo_4 : decode cX8_undo 4 = .ok (.ifCond .ne 6, 3) := by decide +kernel
theorem dX8_undo_7 : decode cX8_undo 7 = .ok (.bipush (-2), 2) := by decide +kernel
theorem dX8_undo_9 : decode cX8_undo 9 = .ok (.ireturn, 1) := by decide +kernel
theorem dX8_undo_10 : decode cX8_undo 10 = .ok (.aload_n 0, 1) := by decide +kernel
theorem dX8_undo_11 : decode cX8_undo 11 = .ok (.iload_n 1, 1) := by decide +kernel
theorem dX8_undo_12 : decode cX8_undo 12 = .ok (.invokevirtual 98, 3) := by decide +kernel
theorem dX8_undo_15 : decode cX8_undo 15 = .ok (.astore_n 2, 1) := by decide +kernel
theorem dX8_undo_16 : decode cX8_undo 16 = .ok (.aload_n 2, 1) := by decide +kernel
theorem dX8_undo_17 : decode cX8_undo 17 = .ok (.getfield 102, 3) := by decide +kernel
theorem dX8_undo_20 : decode cX8_undo 20 = .ok (.ifCond .ne 6, 3) := by decide +kernel
theorem dX8_undo_23 : decode cX8_undo 23 = .ok (.bipush (-3), 2) := by decide +kernel
theorem dX8_undo_25 : decode cX8_undo 25 = .ok (.ireturn, 1) := by decide +kernel
theorem dX8_undo_26 : decode cX8_undo 26 = .ok (.aload_n 2, 1) := by decide +kernel
theorem dX8_undo_27 : decode cX8_undo 27 = .ok (.dup, 1) := by decide +kernel
theorem dX8_undo_28 : decode cX8_undo 28 = .ok (.getfield 102, 3) := by decide +kernel
theorem dX8_undo_31 : decode cX8_undo 31 = .ok (.iconst 1, 1) := by decide +kernel
theorem dX8_undo_32 : decode cX8_undo 32 = .ok (.isub, 1) := by decide +kernel
theorem dX8_undo_33 : decode cX8_undo 33 = .ok (.putfield 102, 3) := by decide +kernel
theorem dX8_undo_36 : decode cX8_undo 36 = .ok (.aload_n 0, 1) := by decide +kernel
theorem dX8_undo_37 : decode cX8_undo 37 = .ok (.iload_n 1, 1) := by decide +kernel
theorem dX8_undo_38 : decode cX8_undo 38 = .ok (.invokevirtual 108, 3) := by decide +kernel
theorem dX8_undo_41 : decode cX8_undo 41 = .ok (.aload_n 2, 1) := by decide +kernel
theorem dX8_undo_42 : decode cX8_undo 42 = .ok (.getfield 102, 3) := by decide +kernel
theorem dX8_undo_45 : decode cX8_undo 45 = .ok (.ireturn, 1) := by decide +kernel
theorem dX8_fault_0 : decode cX8_fault 0 = .ok (.iload_n 1, 1) := by decide +kernel
theorem dX8_fault_1 : decode cX8_fault 1 = .ok (.invokestatic 90, 3) := by decide +kernel
theorem dX8_fault_4 : decode cX8_fault 4 = .ok (.ifCond .ne 6, 3) := by decide +kernel
theorem dX8_fault_7 : decode cX8_fault 7 = .ok (.bipush (-2), 2) := by decide +kernel
theorem dX8_fault_9 : decode cX8_fault 9 = .ok (.ireturn, 1) := by decide +kernel
theorem dX8_fault_10 : decode cX8_fault 10 = .ok (.iload_n 1, 1) := by decide +kernel
theorem dX8_fault_11 : decode cX8_fault 11 = .ok (.ifCond .ne 13, 3) := by decide +kernel
theorem dX8_fault_14 : decode cX8_fault 14 = .ok (.aload_n 0, 1) := by decide +kernel
theorem dX8_fault_15 : decode cX8_fault 15 = .ok (.getfield 24, 3) := by decide +kernel
theorem dX8_fault_18 : decode cX8_fault 18 = .ok (.getfield 111, 3) := by decide +kernel
theorem dX8_fault_21 : decode cX8_fault 21 = .ok (.goto 10, 3) := by decide +kernel
theorem dX8_fault_24 : decode cX8_fault 24 = .ok (.aload_n 0, 1) := by decide +kernel
theorem dX8_fault_25 : decode cX8_fault 25 = .ok (.getfield 31, 3) := by decide +kernel
theorem dX8_fault_28 : decode cX8_fault 28 = .ok (.getfield 114, 3) := by decide +kernel
theorem dX8_fault_31 : decode cX8_fault 31 = .ok (.ireturn, 1) := by decide +kernel
theorem dX8_stone_0 : decode cX8_stone 0 = .ok (.iload_n 1, 1) := by decide +kernel
theorem dX8_stone_1 : decode cX8_stone 1 = .ok (.iload_n 2, 1) := by decide +kernel
end
section
theorem dX8_stone_2 : decode cX8_stone 2 = .ok (.invokestatic 115, 3) := by decide +kernel
theorem dX8_stone_5 : decode cX8_stone 5 = .ok (.ifCond .ne 6, 3) := by decide +kernel
theorem dX8_stone_8 : decode cX8_stone 8 = .ok (.bipush (-2), 2) := by decide +kernel
theorem dX8_stone_10 : decode cX8_stone 10 = .ok (.ireturn, 1) := by decide +kernel
theorem dX8_stone_11 : decode cX8_stone 11 = .ok (.aload_n 0, 1) := by decide +kernel
theorem dX8_stone_12 : decode cX8_stone 12 = .ok (.getfield 24, 3) := by decide +kernel
theorem dX8_stone_15 : decode cX8_stone 15 = .ok (.getfield 119, 3) := by decide +kernel
theorem dX8_stone_18 : decode cX8_stone 18 = .ok (.iconst 0, 1) := by decide +kernel
theorem dX8_stone_19 : decode cX8_stone 19 = .ok (.bipush 8, 2) := by decide +kernel
theorem dX8_stone_21 : decode cX8_stone 21 = .ok (.iload_n 1, 1) := by decide +kernel
theorem dX8_stone_22 : decode cX8_stone 22 = .ok (.imul, 1) := by decide +kernel
theorem dX8_stone_23 : decode cX8_stone 23 = .ok (.iload_n 2, 1) := by decide +kernel
theorem dX8_stone_24 : decode cX8_stone 24 = .ok (.iadd, 1) := by decide +kernel
theorem dX8_stone_25 : decode cX8_stone 25 = .ok (.invokestatic 123, 3) := by decide +kernel
theorem dX8_stone_28 : decode cX8_stone 28 = .ok (.ireturn, 1) := by decide +kernel
theorem dX8_hand_0 : decode cX8_hand 0 = .ok (.aload_n 0, 1) := by decide +kernel
theorem dX8_hand_1 : decode cX8_hand 1 = .ok (.getfield 31, 3) := by decide +kernel
theorem dX8_hand_4 : decode cX8_hand 4 = .ok (.iload_n 1, 1) := by decide +kernel
theorem dX8_hand_5 : decode cX8_hand 5 = .ok (.invokevirtual 127, 3) := by decide +kernel
theorem dX8_hand_8 : decode cX8_hand 8 = .ok (.ifCond .eq 10, 3) := by decide +kernel
theorem dX8_hand_11 : decode cX8_hand 11 = .ok (.iload_n 2, 1) := by decide +kernel
theorem dX8_hand_12 : decode cX8_hand 12 = .ok (.invokestatic 90, 3) := by decide +kernel
theorem dX8_hand_15 : decode cX8_hand 15 = .ok (.ifCond .ne 6, 3) := by decide +kernel
theorem dX8_hand_18 : decode cX8_hand 18 = .ok (.bipush (-2), 2) := by decide +kernel
theorem dX8_hand_20 : decode cX8_hand 20 = .ok (.ireturn, 1) := by decide +kernel
theorem dX8_hand_21 : decode cX8_hand 21 = .ok (.iload_n 2, 1) := by decide +kernel
theorem dX8_hand_22 : decode cX8_hand 22 = .ok (.ifCond .ne 15, 3) := by decide +kernel
theorem dX8_hand_25 : decode cX8_hand 25 = .ok (.aload_n 0, 1) := by decide +kernel
theorem dX8_hand_26 : decode cX8_hand 26 = .ok (.getfield 31, 3) := by decide +kernel
theorem dX8_hand_29 : decode cX8_hand 29 = .ok (.getfield 130, 3) := by decide +kernel
theorem dX8_hand_32 : decode cX8_hand 32 = .ok (.iload_n 1, 1) := by decide +kernel
theorem dX8_hand_33 : decode cX8_hand 33 = .ok (.iaload, 1) := by decide +kernel
theorem dX8_hand_34 : decode cX8_hand 34 = .ok (.goto 12, 3) := by decide +kernel
theorem dX8_hand_37 : decode cX8_hand 37 = .ok (.aload_n 0, 1) := by decide +kernel
theorem dX8_hand_38 : decode cX8_hand 38 = .ok (.getfield 31, 3) := by decide +kernel
theorem dX8_hand_41 : decode cX8_hand 41 = .ok (.getfield 133, 3) := by decide +kernel
theorem dX8_hand_44 : decode cX8_hand 44 = .ok (.iload_n 1, 1) := by decide +kernel
theorem dX8_hand_45 : decode cX8_hand 45 = .ok (.iaload, 1) := by decide +kernel
theorem dX8_hand_46 : decode cX8_hand 46 = .ok (.ireturn, 1) := by decide +kernel
theorem dX8_jump_0 : decode cX8_jump 0 = .ok (.iload_n 1, 1) := by decide +kernel
theorem dX8_jump_1 : decode cX8_jump 1 = .ok (.iconst 1, 1) := by decide +kernel
theorem dX8_jump_2 : decode cX8_jump 2 = .ok (.iconst 5, 1) := by decide +kernel
theorem dX8_jump_3 : decode cX8_jump 3 = .ok (.invokestatic 94, 3) := by decide +kernel
theorem dX8_jump_6 : decode cX8_jump 6 = .ok (.ifCond .ne 6, 3) := by decide +kernel
theorem dX8_jump_9 : decode cX8_jump 9 = .ok (.bipush (-2), 2) := by decide +kernel
theorem dX8_jump_11 : decode cX8_jump 11 = .ok (.ireturn, 1) := by decide +kernel
theorem dX8_jump_12 : decode cX8_jump 12 = .ok (.aload_n 0, 1) := by decide +kernel
theorem dX8_jump_13 : decode cX8_jump 13 = .ok (.getfield 24, 3) := by decide +kernel
theorem dX8_jump_16 : decode cX8_jump 16 = .ok (.getfield 136, 3) := by decide +kernel
theorem dX8_jump_19 : decode cX8_jump 19 = .ok (.istore_n 2, 1) := by decide +kernel
theorem dX8_jump_20 : decode cX8_jump 20 = .ok (.aload_n 0, 1) := by decide +kernel
theorem dX8_jump_21 : decode cX8_jump 21 = .ok (.getfield 24, 3) := by decide +kernel
theorem dX8_jump_24 : decode cX8_jump 24 = .ok (.iload_n 1, 1) := by decide +kernel
theorem dX8_jump_25 : decode cX8_jump 25 = .ok (.putfield 136, 3) := by decide +kernel
theorem dX8_jump_28 : decode cX8_jump 28 = .ok (.aload_n 0, 1) := by decide +kernel
theorem dX8_jump_29 : decode cX8_jump 29 = .ok (.iconst 1, 1) := by decide +kernel
theorem dX8_jump_30 : decode cX8_jump 30 = .ok (.putfield 81, 3) := by decide +kernel
theorem dX8_jump_33 : decode cX8_jump 33 = .ok (.iload_n 2, 1) := by decide +kernel
theorem dX8_jump_34 : decode cX8_jump 34 = .ok (.ireturn, 1) := by decide +kernel
theorem dX8_frost_0 : decode cX8_frost 0 = .ok (.iload_n 1, 1) := by decide +kernel
theorem dX8_frost_1 : decode cX8_frost 1 = .ok (.iload_n 2, 1) := by decide +kernel
theorem dX8_frost_2 : decode cX8_frost 2 = .ok (.invokestatic 139, 3) := by decide +kernel
theorem dX8_frost_5 : decode cX8_frost 5 = .ok (.ifCond .ne 6, 3) := by decide +kernel
theorem dX8_frost_8 : decode cX8_frost 8 = .ok (.bipush (-2), 2) := by decide +kernel
theorem dX8_frost_10 : decode cX8_frost 10 = .ok (.ireturn, 1) := by decide +kernel
theorem dX8_frost_11 : decode cX8_frost 11 = .ok (.aload_n 0, 1) := by decide +kernel
theorem dX8_frost_12 : decode cX8_frost 12 = .ok (.getfield 38, 3) := by decide +kernel
theorem dX8_frost_15 : decode cX8_frost 15 = .ok (.getfield 142, 3) := by decide +kernel
theorem dX8_frost_18 : decode cX8_frost 18 = .ok (.bipush 6, 2) := by decide +kernel
theorem dX8_frost_20 : decode cX8_frost 20 = .ok (.if_icmp .lt 6, 3) := by decide +kernel
theorem dX8_frost_23 : decode cX8_frost 23 = .ok (.bipush (-4), 2) := by decide +kernel
theorem dX8_frost_25 : decode cX8_frost 25 = .ok (.ireturn, 1) := by decide +kernel
theorem dX8_frost_26 : decode cX8_frost 26 = .ok (.aload_n 0, 1) := by decide +kernel
theorem dX8_frost_27 : decode cX8_frost 27 = .ok (.getfield 38, 3) := by decide +kernel
theorem dX8_frost_30 : decode cX8_frost 30 = .ok (.iload_n 1, 1) := by decide +kernel
theorem dX8_frost_31 : decode cX8_frost 31 = .ok (.iload_n 2, 1) := by decide +kernel
theorem dX8_frost_32 : decode cX8_frost 32 = .ok (.invokevirtual 144, 3) := by decide +kernel
theorem dX8_frost_35 : decode cX8_frost 35 = .ok (.aload_n 0, 1) := by decide +kernel
theorem dX8_frost_36 : decode cX8_frost 36 = .ok (.iconst 1, 1) := by decide +kernel
theorem dX8_frost_37 : decode cX8_frost 37 = .ok (.putfield 81, 3) := by decide +kernel
theorem dX8_frost_40 : decode cX8_frost 40 = .ok (.aload_n 0, 1) := by decide +kernel
theorem dX8_frost_41 : decode cX8_frost 41 = .ok (.getfield 38, 3) := by decide +kernel
theorem dX8_frost_44 : decode cX8_frost 44 = .ok (.getfield 142, 3) := by decide +kernel
theorem dX8_frost_47 : decode cX8_frost 47 = .ok (.ireturn, 1) := by decide +kernel
theorem dX8_gapping_0 : decode cX8_gapping 0 = .ok (.iload_n 1, 1) := by decide +kernel
theorem dX8_gapping_1 : decode cX8_gapping 1 = .ok (.invokestatic 148, 3) := by decide +kernel
theorem dX8_gapping_4 : decode cX8_gapping 4 = .ok (.ifCond .eq 23, 3) := by decide +kernel
theorem dX8_gapping_7 : decode cX8_gapping 7 = .ok (.iload_n 2, 1) := by decide +kernel
theorem dX8_gapping_8 : decode cX8_gapping 8 = .ok (.iconst 0, 1) := by decide +kernel
theorem dX8_gapping_9 : decode cX8_gapping 9 = .ok (.bipush 7, 2) := by decide +kernel
theorem dX8_gapping_11 : decode cX8_gapping 11 = .ok (.invokestatic 94, 3) := by decide +kernel
theorem dX8_gapping_14 : decode cX8_gapping 14 = .ok (.ifCond .eq 13, 3) := by decide +kernel
theorem dX8_gapping_17 : decode cX8_gapping 17 = .ok (.iload_n 3, 1) := by decide +kernel
theorem dX8_gapping_18 : decode cX8_gapping 18 = .ok (.iconst 0, 1) := by decide +kernel
theorem dX8_gapping_19 : decode cX8_gapping 19 = .ok (.bipush 7, 2) := by decide +kernel
theorem dX8_gapping_21 : decode cX8_gapping 21 = .ok (.invokestatic 94, 3) := by decide +kernel
theorem dX8_gapping_24 : decode cX8_gapping 24 = .ok (.ifCond .ne 6, 3) := by decide +kernel
theorem dX8_gapping_27 : decode cX8_gapping 27 = .ok (.bipush (-2), 2) := by decide +kernel
theorem dX8_gapping_29 : decode cX8_gapping 29 = .ok (.ireturn, 1) := by decide +kernel
theorem dX8_gapping_30 : decode cX8_gapping 30 = .ok (.aload_n 0, 1) := by decide +kernel
theorem dX8_gapping_31 : decode cX8_gapping 31 = .ok (.getfield 48, 3) := by decide +kernel
theorem dX8_gapping_34 : decode cX8_gapping 34 = .ok (.getfield 151, 3) := by decide +kernel
theorem dX8_gapping_37 : decode cX8_gapping 37 = .ok (.bipush 6, 2) := by decide +kernel
theorem dX8_gapping_39 : decode cX8_gapping 39 = .ok (.if_icmp .lt 6, 3) := by decide +kernel
theorem dX8_gapping_42 : decode cX8_gapping 42 = .ok (.bipush (-4), 2) := by decide +kernel
theorem dX8_gapping_44 : decode cX8_gapping 44 = .ok (.ireturn, 1) := by decide +kernel
theorem dX8_gapping_45 : decode cX8_gapping 45 = .ok (.aload_n 0, 1) := by decide +kernel
theorem dX8_gapping_46 : decode cX8_gapping 46 = .ok (.getfield 48, 3) := by decide +kernel
theorem dX8_gapping_49 : decode cX8_gapping 49 = .ok (.iload_n 1, 1) := by decide +kernel
theorem dX8_gapping_50 : decode cX8_gapping 50 = .ok (.iload_n 2, 1) := by decide +kernel
theorem dX8_gapping_51 : decode cX8_gapping 51 = .ok (.iload_n 3, 1) := by decide +kernel
theorem dX8_gapping_52 : decode cX8_gapping 52 = .ok (.invokevirtual 152, 3) := by decide +kernel
theorem dX8_gapping_55 : decode cX8_gapping 55 = .ok (.aload_n 0, 1) := by decide +kernel
theorem dX8_gapping_56 : decode cX8_gapping 56 = .ok (.iconst 1, 1) := by decide +kernel
theorem dX8_gapping_57 : decode cX8_gapping 57 = .ok (.putfield 81, 3) := by decide +kernel
theorem dX8_gapping_60 : decode cX8_gapping 60 = .ok (.aload_n 0, 1) := by decide +kernel
theorem dX8_gapping_61 : decode cX8_gapping 61 = .ok (.getfield 48, 3) := by decide +kernel
theorem dX8_gapping_64 : decode cX8_gapping 64 = .ok (.getfield 151, 3) := by decide +kernel
theorem dX8_gapping_67 : decode cX8_gapping 67 = .ok (.ireturn, 1) := by decide +kernel
theorem dX8_back_0 : decode cX8_back 0 = .ok (.iload_n 1, 1) := by decide +kernel
theorem dX8_back_1 : decode cX8_back 1 = .ok (.invokestatic 90, 3) := by decide +kernel
theorem dX8_back_4 : decode cX8_back 4 = .ok (.ifCond .ne 6, 3) := by decide +kernel
theorem dX8_back_7 : decode cX8_back 7 = .ok (.bipush (-2), 2) := by decide +kernel
theorem dX8_back_9 : decode cX8_back 9 = .ok (.ireturn, 1) := by decide +kernel
theorem dX8_back_10 : decode cX8_back 10 = .ok (.iload_n 1, 1) := by decide +kernel
theorem dX8_back_11 : decode cX8_back 11 = .ok (.ifCond .ne 13, 3) := by decide +kernel
theorem dX8_back_14 : decode cX8_back 14 = .ok (.aload_n 0, 1) := by decide +kernel
theorem dX8_back_15 : decode cX8_back 15 = .ok (.getfield 38, 3) := by decide +kernel
theorem dX8_back_18 : decode cX8_back 18 = .ok (.getfield 142, 3) := by decide +kernel
theorem dX8_back_21 : decode cX8_back 21 = .ok (.goto 10, 3) := by decide +kernel
theorem dX8_back_24 : decode cX8_back 24 = .ok (.aload_n 0, 1) := by decide +kernel
theorem dX8_back_25 : decode cX8_back 25 = .ok (.getfield 48, 3) := by decide +kernel
theorem dX8_back_28 : decode cX8_back 28 = .ok (.getfield 151, 3) := by decide +kernel
theorem dX8_back_31 : decode cX8_back 31 = .ok (.istore_n 2, 1) := by decide +kernel
theorem dX8_back_32 : decode cX8_back 32 = .ok (.iload_n 2, 1) := by decide +kernel
theorem dX8_back_33 : decode cX8_back 33 = .ok (.ifCond .ne 6, 3) := by decide +kernel
theorem dX8_back_36 : decode cX8_back 36 = .ok (.bipush (-3), 2) := by decide +kernel
theorem dX8_back_38 : decode cX8_back 38 = .ok (.ireturn, 1) := by decide +kernel
theorem dX8_back_39 : decode cX8_back 39 = .ok (.iload_n 1, 1) := by decide +kernel
theorem dX8_back_40 : decode cX8_back 40 = .ok (.ifCond .ne 19, 3) := by decide +kernel
theorem dX8_back_43 : decode cX8_back 43 = .ok (.aload_n 0, 1) := by decide +kernel
theorem dX8_back_44 : decode cX8_back 44 = .ok (.getfield 38, 3) := by decide +kernel
theorem dX8_back_47 : decode cX8_back 47 = .ok (.dup, 1) := by decide +kernel
theorem dX8_back_48 : decode cX8_back 48 = .ok (.getfield 142, 3) := by decide +kernel
theorem dX8_back_51 : decode cX8_back 51 = .ok (.iconst 1, 1) := by decide +kernel
theorem dX8_back_52 : decode cX8_back 52 = .ok (.isub, 1) := by decide +kernel
theorem dX8_back_53 : decode cX8_back 53 = .ok (.putfield 142, 3) := by decide +kernel
theorem dX8_back_56 : decode cX8_back 56 = .ok (.goto 16, 3) := by decide +kernel
theorem dX8_back_59 : decode cX8_back 59 = .ok (.aload_n 0, 1) := by decide +kernel
theorem dX8_back_60 : decode cX8_back 60 = .ok (.getfield 48, 3) := by decide +kernel
theorem dX8_back_63 : decode cX8_back 63 = .ok (.dup, 1) := by decide +kernel
theorem dX8_back_64 : decode cX8_back 64 = .ok (.getfield 151, 3) := by decide +kernel
theorem dX8_back_67 : decode cX8_back 67 = .ok (.iconst 1, 1) := by decide +kernel
theorem dX8_back_68 : decode cX8_back 68 = .ok (.isub, 1) := by decide +kernel
theorem dX8_back_69 : decode cX8_back 69 = .ok (.putfield 151, 3) := by decide +kernel
theorem dX8_back_72 : decode cX8_back 72 = .ok (.aload_n 0, 1) := by decide +kernel
theorem dX8_back_73 : decode cX8_back 73 = .ok (.iconst 1, 1) := by decide +kernel
theorem dX8_back_74 : decode cX8_back 74 = .ok (.putfield 81, 3) := by decide +kernel
theorem dX8_back_77 : decode cX8_back 77 = .ok (.iload_n 2, 1) := by decide +kernel
theorem dX8_back_78 : decode cX8_back 78 = .ok (.iconst 1, 1) := by decide +kernel
theorem dX8_back_79 : decode cX8_back 79 = .ok (.isub, 1) := by decide +kernel
theorem dX8_back_80 : decode cX8_back 80 = .ok (.ireturn, 1) := by decide +kernel
theorem dX8_read_0 : decode cX8_read 0 = .ok (.iload_n 1, 1) := by decide +kernel
theorem dX8_read_1 : decode cX8_read 1 = .ok (.invokestatic 155, 3) := by decide +kernel
theorem dX8_read_4 : decode cX8_read 4 = .ok (.ifCond .ne 6, 3) := by decide +kernel
theorem dX8_read_7 : decode cX8_read 7 = .ok (.bipush (-2), 2) := by decide +kernel
theorem dX8_read_9 : decode cX8_read 9 = .ok (.ireturn, 1) := by decide +kernel
theorem dX8_read_10 : decode cX8_read 10 = .ok (.aload_n 0, 1) := by decide +kernel
theorem dX8_read_11 : decode cX8_read 11 = .ok (.getfield 61, 3) := by decide +kernel
theorem dX8_read_14 : decode cX8_read 14 = .ok (.iload_n 1, 1) := by decide +kernel
theorem dX8_read_15 : decode cX8_read 15 = .ok (.aaload, 1) := by decide +kernel
theorem dX8_read_16 : decode cX8_read 16 = .ok (.astore_n 2, 1) := by decide +kernel
theorem dX8_read_17 : decode cX8_read 17 = .ok (.aload_n 2, 1) := by decide +kernel
theorem dX8_read_18 : decode cX8_read 18 = .ok (.getfield 158, 3) := by decide +kernel
theorem dX8_read_21 : decode cX8_read 21 = .ok (.iconst (-1), 1) := by decide +kernel
theorem dX8_read_22 : decode cX8_read 22 = .ok (.if_icmp .ne 9, 3) := by decide +kernel
theorem dX8_read_25 : decode cX8_read 25 = .ok (.aload_n 0, 1) := by decide +kernel
theorem dX8_read_26 : decode cX8_read 26 = .ok (.iconst 1, 1) := by decide +kernel
theorem dX8_read_27 : decode cX8_read 27 = .ok (.invokevirtual 161, 3) := by decide +kernel
theorem dX8_read_30 : decode cX8_read 30 = .ok (.ireturn, 1) := by decide +kernel
theorem dX8_read_31 : decode cX8_read 31 = .ok (.aload_n 0, 1) := by decide +kernel
theorem dX8_read_32 : decode cX8_read 32 = .ok (.getfield 38, 3) := by decide +kernel
theorem dX8_read_35 : decode cX8_read 35 = .ok (.getfield 142, 3) := by decide +kernel
theorem dX8_read_38 : decode cX8_read 38 = .ok (.istore_n 3, 1) := by decide +kernel
theorem dX8_read_39 : decode cX8_read 39 = .ok (.iconst 0, 1) := by decide +kernel
theorem dX8_read_40 : decode cX8_read 40 = .ok (.istore 4, 2) := by decide +kernel
theorem dX8_read_42 : decode cX8_read 42 = .ok (.iload 4, 2) := by decide +kernel
theorem dX8_read_44 : decode cX8_read 44 = .ok (.iconst 1, 1) := by decide +kernel
theorem dX8_read_45 : decode cX8_read 45 = .ok (.iadd, 1) := by decide +kernel
theorem dX8_read_46 : decode cX8_read 46 = .ok (.aload_n 2, 1) := by decide +kernel
theorem dX8_read_47 : decode cX8_read 47 = .ok (.getfield 165, 3) := by decide +kernel
theorem dX8_read_50 : decode cX8_read 50 = .ok (.if_icmp .ge 69, 3) := by decide +kernel
theorem dX8_read_53 : decode cX8_read 53 = .ok (.aload_n 0, 1) := by decide +kernel
theorem dX8_read_54 : decode cX8_read 54 = .ok (.getfield 38, 3) := by decide +kernel
theorem dX8_read_57 : decode cX8_read 57 = .ok (.getfield 142, 3) := by decide +kernel
theorem dX8_read_60 : decode cX8_read 60 = .ok (.bipush 6, 2) := by decide +kernel
theorem dX8_read_62 : decode cX8_read 62 = .ok (.if_icmp .ge 57, 3) := by decide +kernel
theorem dX8_read_65 : decode cX8_read 65 = .ok (.aload_n 2, 1) := by decide +kernel
theorem dX8_read_66 : decode cX8_read 66 = .ok (.getfield 168, 3) := by decide +kernel
theorem dX8_read_69 : decode cX8_read 69 = .ok (.iload 4, 2) := by decide +kernel
theorem dX8_read_71 : decode cX8_read 71 = .ok (.iaload, 1) := by decide +kernel
theorem dX8_read_72 : decode cX8_read 72 = .ok (.aload_n 2, 1) := by decide +kernel
theorem dX8_read_73 : decode cX8_read 73 = .ok (.getfield 168, 3) := by decide +kernel
theorem dX8_read_76 : decode cX8_read 76 = .ok (.iload 4, 2) := by decide +kernel
theorem dX8_read_78 : decode cX8_read 78 = .ok (.iconst 1, 1) := by decide +kernel
theorem dX8_read_79 : decode cX8_read 79 = .ok (.iadd, 1) := by decide +kernel
theorem dX8_read_80 : decode cX8_read 80 = .ok (.iaload, 1) := by decide +kernel
theorem dX8_read_81 : decode cX8_read 81 = .ok (.invokestatic 139, 3) := by decide +kernel
theorem dX8_read_84 : decode cX8_read 84 = .ok (.ifCond .ne 6, 3) := by decide +kernel
theorem dX8_read_87 : decode cX8_read 87 = .ok (.goto 32, 3) := by decide +kernel
theorem dX8_read_90 : decode cX8_read 90 = .ok (.aload_n 0, 1) := by decide +kernel
theorem dX8_read_91 : decode cX8_read 91 = .ok (.getfield 38, 3) := by decide +kernel
theorem dX8_read_94 : decode cX8_read 94 = .ok (.aload_n 2, 1) := by decide +kernel
theorem dX8_read_95 : decode cX8_read 95 = .ok (.getfield 168, 3) := by decide +kernel
theorem dX8_read_98 : decode cX8_read 98 = .ok (.iload 4, 2) := by decide +kernel
theorem dX8_read_100 : decode cX8_read 100 = .ok (.iaload, 1) := by decide +kernel
theorem dX8_read_101 : decode cX8_read 101 = .ok (.aload_n 2, 1) := by decide +kernel
theorem dX8_read_102 : decode cX8_read 102 = .ok (.getfield 168, 3) := by decide +kernel
theorem dX8_read_105 : decode cX8_read 105 = .ok (.iload 4, 2) := by decide +kernel
theorem dX8_read_107 : decode cX8_read 107 = .ok (.iconst 1, 1) := by decide +kernel
theorem dX8_read_108 : decode cX8_read 108 = .ok (.iadd, 1) := by decide +kernel
theorem dX8_read_109 : decode cX8_read 109 = .ok (.iaload, 1) := by decide +kernel
theorem dX8_read_110 : decode cX8_read 110 = .ok (.invokevirtual 144, 3) := by decide +kernel
theorem dX8_read_113 : decode cX8_read 113 = .ok (.iinc 4 2, 3) := by decide +kernel
theorem dX8_read_116 : decode cX8_read 116 = .ok (.goto (-74), 3) := by decide +kernel
theorem dX8_read_119 : decode cX8_read 119 = .ok (.aload_n 0, 1) := by decide +kernel
theorem dX8_read_120 : decode cX8_read 120 = .ok (.iconst 1, 1) := by decide +kernel
theorem dX8_read_121 : decode cX8_read 121 = .ok (.putfield 81, 3) := by decide +kernel
theorem dX8_read_124 : decode cX8_read 124 = .ok (.aload_n 0, 1) := by decide +kernel
theorem dX8_read_125 : decode cX8_read 125 = .ok (.getfield 38, 3) := by decide +kernel
theorem dX8_read_128 : decode cX8_read 128 = .ok (.getfield 142, 3) := by decide +kernel
theorem dX8_read_131 : decode cX8_read 131 = .ok (.iload_n 3, 1) := by decide +kernel
theorem dX8_read_132 : decode cX8_read 132 = .ok (.isub, 1) := by decide +kernel
theorem dX8_read_133 : decode cX8_read 133 = .ok (.ireturn, 1) := by decide +kernel
theorem dX8_at_0 : decode cX8_at 0 = .ok (.iload_n 1, 1) := by decide +kernel
theorem dX8_at_1 : decode cX8_at 1 = .ok (.invokestatic 148, 3) := by decide +kernel
theorem dX8_at_4 : decode cX8_at 4 = .ok (.ifCond .eq 19, 3) := by decide +kernel
theorem dX8_at_7 : decode cX8_at 7 = .ok (.iload_n 2, 1) := by decide +kernel
theorem dX8_at_8 : decode cX8_at 8 = .ok (.iload_n 3, 1) := by decide +kernel
theorem dX8_at_9 : decode cX8_at 9 = .ok (.invokestatic 115, 3) := by decide +kernel
theorem dX8_at_12 : decode cX8_at 12 = .ok (.ifCond .eq 11, 3) := by decide +kernel
theorem dX8_at_15 : decode cX8_at 15 = .ok (.iload 4, 2) := by decide +kernel
theorem dX8_at_17 : decode cX8_at 17 = .ok (.invokestatic 90, 3) := by decide +kernel
theorem dX8_at_20 : decode cX8_at 20 = .ok (.ifCond .ne 6, 3) := by decide +kernel
theorem dX8_at_23 : decode cX8_at 23 = .ok (.bipush (-2), 2) := by decide +kernel
theorem dX8_at_25 : decode cX8_at 25 = .ok (.ireturn, 1) := by decide +kernel
theorem dX8_at_26 : decode cX8_at 26 = .ok (.aload_n 0, 1) := by decide +kernel
theorem dX8_at_27 : decode cX8_at 27 = .ok (.invokevirtual 171, 3) := by decide +kernel
theorem dX8_at_30 : decode cX8_at 30 = .ok (.astore 5, 2) := by decide +kernel
theorem dX8_at_32 : decode cX8_at 32 = .ok (.bipush 8, 2) := by decide +kernel
theorem dX8_at_34 : decode cX8_at 34 = .ok (.iload_n 2, 1) := by decide +kernel
theorem dX8_at_35 : decode cX8_at 35 = .ok (.imul, 1) := by decide +kernel
theorem dX8_at_36 : decode cX8_at 36 = .ok (.iload_n 3, 1) := by decide +kernel
theorem dX8_at_37 : decode cX8_at 37 = .ok (.iadd, 1) := by decide +kernel
theorem dX8_at_38 : decode cX8_at 38 = .ok (.istore 6, 2) := by decide +kernel
theorem dX8_at_40 : decode cX8_at 40 = .ok (.iload 4, 2) := by decide +kernel
theorem dX8_at_42 : decode cX8_at 42 = .ok (.ifCond .ne 14, 3) := by decide +kernel
theorem dX8_at_45 : decode cX8_at 45 = .ok (.aload 5, 2) := by decide +kernel
theorem dX8_at_47 : decode cX8_at 47 = .ok (.iload_n 1, 1) := by decide +kernel
theorem dX8_at_48 : decode cX8_at 48 = .ok (.iload 6, 2) := by decide +kernel
theorem dX8_at_50 : decode cX8_at 50 = .ok (.invokevirtual 175, 3) := by decide +kernel
theorem dX8_at_53 : decode cX8_at 53 = .ok (.goto 11, 3) := by decide +kernel
theorem dX8_at_56 : decode cX8_at 56 = .ok (.aload 5, 2) := by decide +kernel
theorem dX8_at_58 : decode cX8_at 58 = .ok (.iload_n 1, 1) := by decide +kernel
theorem dX8_at_59 : decode cX8_at 59 = .ok (.iload 6, 2) := by decide +kernel
theorem dX8_at_61 : decode cX8_at 61 = .ok (.invokevirtual 179, 3) := by decide +kernel
theorem dX8_at_64 : decode cX8_at 64 = .ok (.ireturn, 1) := by decide +kernel
theorem dX8_column_0 : decode cX8_column 0 = .ok (.iload_n 1, 1) := by decide +kernel
theorem dX8_column_1 : decode cX8_column 1 = .ok (.invokestatic 148, 3) := by decide +kernel
theorem dX8_column_4 : decode cX8_column 4 = .ok (.ifCond .eq 27, 3) := by decide +kernel
theorem dX8_column_7 : decode cX8_column 7 = .ok (.iload_n 2, 1) := by decide +kernel
theorem dX8_column_8 : decode cX8_column 8 = .ok (.iconst 0, 1) := by decide +kernel
theorem dX8_column_9 : decode cX8_column 9 = .ok (.aload_n 0, 1) := by decide +kernel
theorem dX8_column_10 : decode cX8_column 10 = .ok (.getfield 24, 3) := by decide +kernel
theorem dX8_column_13 : decode cX8_column 13 = .ok (.getfield 182, 3) := by decide +kernel
theorem dX8_column_16 : decode cX8_column 16 = .ok (.iconst 1, 1) := by decide +kernel
theorem dX8_column_17 : decode cX8_column 17 = .ok (.isub, 1) := by decide +kernel
theorem dX8_column_18 : decode cX8_column 18 = .ok (.invokestatic 94, 3) := by decide +kernel
theorem dX8_column_21 : decode cX8_column 21 = .ok (.ifCond .eq 10, 3) := by decide +kernel
theorem dX8_column_24 : decode cX8_column 24 = .ok (.iload_n 3, 1) := by decide +kernel
theorem dX8_column_25 : decode cX8_column 25 = .ok (.invokestatic 90, 3) := by decide +kernel
theorem dX8_column_28 : decode cX8_column 28 = .ok (.ifCond .ne 6, 3) := by decide +kernel
theorem dX8_column_31 : decode cX8_column 31 = .ok (.bipush (-2), 2) := by decide +kernel
theorem dX8_column_33 : decode cX8_column 33 = .ok (.ireturn, 1) := by decide +kernel
theorem dX8_column_34 : decode cX8_column 34 = .ok (.aload_n 0, 1) := by decide +kernel
theorem dX8_column_35 : decode cX8_column 35 = .ok (.invokevirtual 171, 3) := by decide +kernel
theorem dX8_column_38 : decode cX8_column 38 = .ok (.astore 4, 2) := by decide +kernel
theorem dX8_column_40 : decode cX8_column 40 = .ok (.iload_n 3, 1) := by decide +kernel
theorem dX8_column_41 : decode cX8_column 41 = .ok (.ifCond .ne 13, 3) := by decide +kernel
theorem dX8_column_44 : decode cX8_column 44 = .ok (.aload 4, 2) := by decide +kernel
theorem dX8_column_46 : decode cX8_column 46 = .ok (.iload_n 1, 1) := by decide +kernel
theorem dX8_column_47 : decode cX8_column 47 = .ok (.iload_n 2, 1) := by decide +kernel
theorem dX8_column_48 : decode cX8_column 48 = .ok (.invokevirtual 185, 3) := by decide +kernel
theorem dX8_column_51 : decode cX8_column 51 = .ok (.goto 14, 3) := by decide +kernel
theorem dX8_column_54 : decode cX8_column 54 = .ok (.aload 4, 2) := by decide +kernel
theorem dX8_column_56 : decode cX8_column 56 = .ok (.getfield 188, 3) := by decide +kernel
theorem dX8_column_59 : decode cX8_column 59 = .ok (.iload_n 1, 1) := by decide +kernel
theorem dX8_column_60 : decode cX8_column 60 = .ok (.iaload, 1) := by decide +kernel
theorem dX8_column_61 : decode cX8_column 61 = .ok (.iload_n 2, 1) := by decide +kernel
theorem dX8_column_62 : decode cX8_column 62 = .ok (.iushr, 1) := by decide +kernel
theorem dX8_column_63 : decode cX8_column 63 = .ok (.iconst 1, 1) := by decide +kernel
theorem dX8_column_64 : decode cX8_column 64 = .ok (.iand, 1) := by decide +kernel
theorem dX8_column_65 : decode cX8_column 65 = .ok (.ireturn, 1) := by decide +kernel
theorem dX8_falls_0 : decode cX8_falls 0 = .ok (.iload_n 1, 1) := by decide +kernel
theorem dX8_falls_1 : decode cX8_falls 1 = .ok (.invokestatic 148, 3) := by decide +kernel
theorem dX8_falls_4 : decode cX8_falls 4 = .ok (.ifCond .eq 15, 3) := by decide +kernel
theorem dX8_falls_7 : decode cX8_falls 7 = .ok (.aload_n 0, 1) := by decide +kernel
theorem dX8_falls_8 : decode cX8_falls 8 = .ok (.invokevirtual 171, 3) := by decide +kernel
theorem dX8_falls_11 : decode cX8_falls 11 = .ok (.getfield 191, 3) := by decide +kernel
theorem dX8_falls_14 : decode cX8_falls 14 = .ok (.iload_n 1, 1) := by decide +kernel
theorem dX8_falls_15 : decode cX8_falls 15 = .ok (.iaload, 1) := by decide +kernel
theorem dX8_falls_16 : decode cX8_falls 16 = .ok (.goto 5, 3) := by decide +kernel
theorem dX8_falls_19 : decode cX8_falls 19 = .ok (.bipush (-2), 2) := by decide +kernel
theorem dX8_falls_21 : decode cX8_falls 21 = .ok (.ireturn, 1) := by decide +kernel
theorem dX8_sheep_0 : decode cX8_sheep 0 = .ok (.iload_n 1, 1) := by decide +kernel
theorem dX8_sheep_1 : decode cX8_sheep 1 = .ok (.invokestatic 90, 3) := by decide +kernel
theorem dX8_sheep_4 : decode cX8_sheep 4 = .ok (.ifCond .ne 6, 3) := by decide +kernel
theorem dX8_sheep_7 : decode cX8_sheep 7 = .ok (.bipush (-2), 2) := by decide +kernel
theorem dX8_sheep_9 : decode cX8_sheep 9 = .ok (.ireturn, 1) := by decide +kernel
theorem dX8_sheep_10 : decode cX8_sheep 10 = .ok (.aload_n 0, 1) := by decide +kernel
theorem dX8_sheep_11 : decode cX8_sheep 11 = .ok (.invokevirtual 171, 3) := by decide +kernel
theorem dX8_sheep_14 : decode cX8_sheep 14 = .ok (.astore_n 2, 1) := by decide +kernel
theorem dX8_sheep_15 : decode cX8_sheep 15 = .ok (.iload_n 1, 1) := by decide +kernel
theorem dX8_sheep_16 : decode cX8_sheep 16 = .ok (.ifCond .ne 10, 3) := by decide +kernel
theorem dX8_sheep_19 : decode cX8_sheep 19 = .ok (.aload_n 2, 1) := by decide +kernel
theorem dX8_sheep_20 : decode cX8_sheep 20 = .ok (.invokevirtual 194, 3) := by decide +kernel
theorem dX8_sheep_23 : decode cX8_sheep 23 = .ok (.goto 7, 3) := by decide +kernel
theorem dX8_sheep_26 : decode cX8_sheep 26 = .ok (.aload_n 2, 1) := by decide +kernel
theorem dX8_sheep_27 : decode cX8_sheep 27 = .ok (.invokevirtual 198, 3) := by decide +kernel
theorem dX8_sheep_30 : decode cX8_sheep 30 = .ok (.ireturn, 1) := by decide +kernel
theorem dX8_mine_0 : decode cX8_mine 0 = .ok (.iload_n 1, 1) := by decide +kernel
theorem dX8_mine_1 : decode cX8_mine 1 = .ok (.iconst 0, 1) := by decide +kernel
theorem dX8_mine_2 : decode cX8_mine 2 = .ok (.bipush 7, 2) := by decide +kernel
theorem dX8_mine_4 : decode cX8_mine 4 = .ok (.invokestatic 94, 3) := by decide +kernel
theorem dX8_mine_7 : decode cX8_mine 7 = .ok (.ifCond .eq 14, 3) := by decide +kernel
theorem dX8_mine_10 : decode cX8_mine 10 = .ok (.aload_n 0, 1) := by decide +kernel
theorem dX8_mine_11 : decode cX8_mine 11 = .ok (.invokevirtual 171, 3) := by decide +kernel
theorem dX8_mine_14 : decode cX8_mine 14 = .ok (.iload_n 1, 1) := by decide +kernel
theorem dX8_mine_15 : decode cX8_mine 15 = .ok (.invokevirtual 201, 3) := by decide +kernel
theorem dX8_mine_18 : decode cX8_mine 18 = .ok (.goto 5, 3) := by decide +kernel
theorem dX8_mine_21 : decode cX8_mine 21 = .ok (.bipush (-2), 2) := by decide +kernel
theorem dX8_mine_23 : decode cX8_mine 23 = .ok (.ireturn, 1) := by decide +kernel
theorem dX8_best_0 : decode cX8_best 0 = .ok (.aload_n 0, 1) := by decide +kernel
theorem dX8_best_1 : decode cX8_best 1 = .ok (.invokevirtual 171, 3) := by decide +kernel
theorem dX8_best_4 : decode cX8_best 4 = .ok (.astore_n 1, 1) := by decide +kernel
theorem dX8_best_5 : decode cX8_best 5 = .ok (.iconst (-1), 1) := by decide +kernel
theorem dX8_best_6 : decode cX8_best 6 = .ok (.istore_n 2, 1) := by decide +kernel
theorem dX8_best_7 : decode cX8_best 7 = .ok (.iconst 0, 1) := by decide +kernel
theorem dX8_best_8 : decode cX8_best 8 = .ok (.istore_n 3, 1) := by decide +kernel
theorem dX8_best_9 : decode cX8_best 9 = .ok (.iconst 0, 1) := by decide +kernel
theorem dX8_best_10 : decode cX8_best 10 = .ok (.istore 4, 2) := by decide +kernel
theorem dX8_best_12 : decode cX8_best 12 = .ok (.iload 4, 2) := by decide +kernel
theorem dX8_best_14 : decode cX8_best 14 = .ok (.bipush 8, 2) := by decide +kernel
theorem dX8_best_16 : decode cX8_best 16 = .ok (.if_icmp .ge 29, 3) := by decide +kernel
theorem dX8_best_19 : decode cX8_best 19 = .ok (.aload_n 1, 1) := by decide +kernel
theorem dX8_best_20 : decode cX8_best 20 = .ok (.iload 4, 2) := by decide +kernel
theorem dX8_best_22 : decode cX8_best 22 = .ok (.invokevirtual 201, 3) := by decide +kernel
theorem dX8_best_25 : decode cX8_best 25 = .ok (.istore 5, 2) := by decide +kernel
theorem dX8_best_27 : decode cX8_best 27 = .ok (.iload 5, 2) := by decide +kernel
theorem dX8_best_29 : decode cX8_best 29 = .ok (.iload_n 3, 1) := by decide +kernel
theorem dX8_best_30 : decode cX8_best 30 = .ok (.if_icmp .le 9, 3) := by decide +kernel
theorem dX8_best_33 : decode cX8_best 33 = .ok (.iload 5, 2) := by decide +kernel
theorem dX8_best_35 : decode cX8_best 35 = .ok (.istore_n 3, 1) := by decide +kernel
theorem dX8_best_36 : decode cX8_best 36 = .ok (.iload 4, 2) := by decide +kernel
theorem dX8_best_38 : decode cX8_best 38 = .ok (.istore_n 2, 1) := by decide +kernel
theorem dX8_best_39 : decode cX8_best 39 = .ok (.iinc 4 1, 3) := by decide +kernel
theorem dX8_best_42 : decode cX8_best 42 = .ok (.goto (-30), 3) := by decide +kernel
theorem dX8_best_45 : decode cX8_best 45 = .ok (.iload_n 2, 1) := by decide +kernel
theorem dX8_best_46 : decode cX8_best 46 = .ok (.ireturn, 1) := by decide +kernel
theorem dX8_mend_0 : decode cX8_mend 0 = .ok (.iload_n 1, 1) := by decide +kernel
theorem dX8_mend_1 : decode cX8_mend 1 = .ok (.invokestatic 148, 3) := by decide +kernel
theorem dX8_mend_4 : decode cX8_mend 4 = .ok (.ifCond .eq 12, 3) := by decide +kernel
theorem dX8_mend_7 : decode cX8_mend 7 = .ok (.iload_n 2, 1) := by decide +kernel
theorem dX8_mend_8 : decode cX8_mend 8 = .ok (.iconst 0, 1) := by decide +kernel
theorem dX8_mend_9 : decode cX8_mend 9 = .ok (.iconst 2, 1) := by decide +kernel
theorem dX8_mend_10 : decode cX8_mend 10 = .ok (.invokestatic 94, 3) := by decide +kernel
theorem dX8_mend_13 : decode cX8_mend 13 = .ok (.ifCond .ne 6, 3) := by decide +kernel
theorem dX8_mend_16 : decode cX8_mend 16 = .ok (.bipush (-2), 2) := by decide +kernel
theorem dX8_mend_18 : decode cX8_mend 18 = .ok (.ireturn, 1) := by decide +kernel
theorem dX8_mend_19 : decode cX8_mend 19 = .ok (.iconst (-1), 1) := by decide +kernel
theorem dX8_mend_20 : decode cX8_mend 20 = .ok (.istore_n 3, 1) := by decide +kernel
theorem dX8_mend_21 : decode cX8_mend 21 = .ok (.iconst (-1), 1) := by decide +kernel
theorem dX8_mend_22 : decode cX8_mend 22 = .ok (.istore 4, 2) := by decide +kernel
theorem dX8_mend_24 : decode cX8_mend 24 = .ok (.iconst (-1), 1) := by decide +kernel
theorem dX8_mend_25 : decode cX8_mend 25 = .ok (.istore 5, 2) := by decide +kernel
theorem dX8_mend_27 : decode cX8_mend 27 = .ok (.iconst 0, 1) := by decide +kernel
theorem dX8_mend_28 : decode cX8_mend 28 = .ok (.istore 6, 2) := by decide +kernel
theorem dX8_mend_30 : decode cX8_mend 30 = .ok (.iload 6, 2) := by decide +kernel
theorem dX8_mend_32 : decode cX8_mend 32 = .ok (.aload_n 0, 1) := by decide +kernel
theorem dX8_mend_33 : decode cX8_mend 33 = .ok (.getfield 24, 3) := by decide +kernel
theorem dX8_mend_36 : decode cX8_mend 36 = .ok (.getfield 182, 3) := by decide +kernel
theorem dX8_mend_39 : decode cX8_mend 39 = .ok (.if_icmp .ge 98, 3) := by decide +kernel
theorem dX8_mend_42 : decode cX8_mend 42 = .ok (.iconst 0, 1) := by decide +kernel
theorem dX8_mend_43 : decode cX8_mend 43 = .ok (.istore 7, 2) := by decide +kernel
theorem dX8_mend_45 : decode cX8_mend 45 = .ok (.iload 7, 2) := by decide +kernel
theorem dX8_mend_47 : decode cX8_mend 47 = .ok (.aload_n 0, 1) := by decide +kernel
theorem dX8_mend_48 : decode cX8_mend 48 = .ok (.getfield 31, 3) := by decide +kernel
theorem dX8_mend_51 : decode cX8_mend 51 = .ok (.getfield 204, 3) := by decide +kernel
theorem dX8_mend_54 : decode cX8_mend 54 = .ok (.if_icmp .ge 77, 3) := by decide +kernel
theorem dX8_mend_57 : decode cX8_mend 57 = .ok (.aload_n 0, 1) := by decide +kernel
theorem dX8_mend_58 : decode cX8_mend 58 = .ok (.getfield 48, 3) := by decide +kernel
theorem dX8_mend_61 : decode cX8_mend 61 = .ok (.iload_n 1, 1) := by decide +kernel
theorem dX8_mend_62 : decode cX8_mend 62 = .ok (.iload 6, 2) := by decide +kernel
theorem dX8_mend_64 : decode cX8_mend 64 = .ok (.iload 7, 2) := by decide +kernel
theorem dX8_mend_66 : decode cX8_mend 66 = .ok (.invokevirtual 152, 3) := by decide +kernel
theorem dX8_mend_69 : decode cX8_mend 69 = .ok (.aload_n 0, 1) := by decide +kernel
theorem dX8_mend_70 : decode cX8_mend 70 = .ok (.getfield 74, 3) := by decide +kernel
theorem dX8_mend_73 : decode cX8_mend 73 = .ok (.aload_n 0, 1) := by decide +kernel
theorem dX8_mend_74 : decode cX8_mend 74 = .ok (.getfield 38, 3) := by decide +kernel
theorem dX8_mend_77 : decode cX8_mend 77 = .ok (.iconst 0, 1) := by decide +kernel
theorem dX8_mend_78 : decode cX8_mend 78 = .ok (.invokevirtual 205, 3) := by decide +kernel
theorem dX8_mend_81 : decode cX8_mend 81 = .ok (.aload_n 0, 1) := by decide +kernel
theorem dX8_mend_82 : decode cX8_mend 82 = .ok (.getfield 48, 3) := by decide +kernel
theorem dX8_mend_85 : decode cX8_mend 85 = .ok (.dup, 1) := by decide +kernel
theorem dX8_mend_86 : decode cX8_mend 86 = .ok (.getfield 151, 3) := by decide +kernel
theorem dX8_mend_89 : decode cX8_mend 89 = .ok (.iconst 1, 1) := by decide +kernel
theorem dX8_mend_90 : decode cX8_mend 90 = .ok (.isub, 1) := by decide +kernel
theorem dX8_mend_91 : decode cX8_mend 91 = .ok (.putfield 151, 3) := by decide +kernel
theorem dX8_mend_94 : decode cX8_mend 94 = .ok (.aload_n 0, 1) := by decide +kernel
theorem dX8_mend_95 : decode cX8_mend 95 = .ok (.getfield 74, 3) := by decide +kernel
theorem dX8_mend_98 : decode cX8_mend 98 = .ok (.invokevirtual 198, 3) := by decide +kernel
theorem dX8_mend_101 : decode cX8_mend 101 = .ok (.istore 8, 2) := by decide +kernel
theorem dX8_mend_103 : decode cX8_mend 103 = .ok (.iload_n 3, 1) := by decide +kernel
theorem dX8_mend_104 : decode cX8_mend 104 = .ok (.iconst (-1), 1) := by decide +kernel
theorem dX8_mend_105 : decode cX8_mend 105 = .ok (.if_icmp .eq 9, 3) := by decide +kernel
theorem dX8_mend_108 : decode cX8_mend 108 = .ok (.iload 8, 2) := by decide +kernel
theorem dX8_mend_110 : decode cX8_mend 110 = .ok (.iload_n 3, 1) := by decide +kernel
theorem dX8_mend_111 : decode cX8_mend 111 = .ok (.if_icmp .ge 14, 3) := by decide +kernel
theorem dX8_mend_114 : decode cX8_mend 114 = .ok (.iload 8, 2) := by decide +kernel
theorem dX8_mend_116 : decode cX8_mend 116 = .ok (.istore_n 3, 1) := by decide +kernel
theorem dX8_mend_117 : decode cX8_mend 117 = .ok (.iload 6, 2) := by decide +kernel
theorem dX8_mend_119 : decode cX8_mend 119 = .ok (.istore 4, 2) := by decide +kernel
theorem dX8_mend_121 : decode cX8_mend 121 = .ok (.iload 7, 2) := by decide +kernel
theorem dX8_mend_123 : decode cX8_mend 123 = .ok (.istore 5, 2) := by decide +kernel
theorem dX8_mend_125 : decode cX8_mend 125 = .ok (.iinc 7 1, 3) := by decide +kernel
theorem dX8_mend_128 : decode cX8_mend 128 = .ok (.goto (-83), 3) := by decide +kernel
theorem dX8_mend_131 : decode cX8_mend 131 = .ok (.iinc 6 1, 3) := by decide +kernel
theorem dX8_mend_134 : decode cX8_mend 134 = .ok (.goto (-104), 3) := by decide +kernel
theorem dX8_mend_137 : decode cX8_mend 137 = .ok (.iload_n 2, 1) := by decide +kernel
theorem dX8_mend_138 : decode cX8_mend 138 = .ok (.ifCond .ne 8, 3) := by decide +kernel
theorem dX8_mend_141 : decode cX8_mend 141 = .ok (.iload 4, 2) := by decide +kernel
theorem dX8_mend_143 : decode cX8_mend 143 = .ok (.goto 14, 3) := by decide +kernel
theorem dX8_mend_146 : decode cX8_mend 146 = .ok (.iload_n 2, 1) := by decide +kernel
theorem dX8_mend_147 : decode cX8_mend 147 = .ok (.iconst 1, 1) := by decide +kernel
theorem dX8_mend_148 : decode cX8_mend 148 = .ok (.if_icmp .ne 8, 3) := by decide +kernel
theorem dX8_mend_151 : decode cX8_mend 151 = .ok (.iload 5, 2) := by decide +kernel
theorem dX8_mend_153 : decode cX8_mend 153 = .ok (.goto 4, 3) := by decide +kernel
theorem dX8_mend_156 : decode cX8_mend 156 = .ok (.iload_n 3, 1) := by decide +kernel
theorem dX8_mend_157 : decode cX8_mend 157 = .ok (.ireturn, 1) := by decide +kernel
theorem dX8_firm_0 : decode cX8_firm 0 = .ok (.aload_n 0, 1) := by decide +kernel
theorem dX8_firm_1 : decode cX8_firm 1 = .ok (.getfield 31, 3) := by decide +kernel
theorem dX8_firm_4 : decode cX8_firm 4 = .ok (.iload_n 1, 1) := by decide +kernel
theorem dX8_firm_5 : decode cX8_firm 5 = .ok (.invokevirtual 127, 3) := by decide +kernel
theorem dX8_firm_8 : decode cX8_firm 8 = .ok (.ifCond .ne 6, 3) := by decide +kernel
theorem dX8_firm_11 : decode cX8_firm 11 = .ok (.bipush (-2), 2) := by decide +kernel
theorem dX8_firm_13 : decode cX8_firm 13 = .ok (.ireturn, 1) := by decide +kernel
theorem dX8_firm_14 : decode cX8_firm 14 = .ok (.aload_n 0, 1) := by decide +kernel
theorem dX8_firm_15 : decode cX8_firm 15 = .ok (.getfield 31, 3) := by decide +kernel
theorem dX8_firm_18 : decode cX8_firm 18 = .ok (.getfield 133, 3) := by decide +kernel
theorem dX8_firm_21 : decode cX8_firm 21 = .ok (.iload_n 1, 1) := by decide +kernel
theorem dX8_firm_22 : decode cX8_firm 22 = .ok (.iaload, 1) := by decide +kernel
theorem dX8_firm_23 : decode cX8_firm 23 = .ok (.istore_n 2, 1) := by decide +kernel
theorem dX8_firm_24 : decode cX8_firm 24 = .ok (.iconst (-1), 1) := by decide +kernel
theorem dX8_firm_25 : decode cX8_firm 25 = .ok (.istore_n 3, 1) := by decide +kernel
theorem dX8_firm_26 : decode cX8_firm 26 = .ok (.iconst 1, 1) := by decide +kernel
theorem dX8_firm_27 : decode cX8_firm 27 = .ok (.istore 4, 2) := by decide +kernel
theorem dX8_firm_29 : decode cX8_firm 29 = .ok (.iload 4, 2) := by decide +kernel
theorem dX8_firm_31 : decode cX8_firm 31 = .ok (.bipush 9, 2) := by decide +kernel
theorem dX8_firm_33 : decode cX8_firm 33 = .ok (.if_icmp .gt 54, 3) := by decide +kernel
theorem dX8_firm_36 : decode cX8_firm 36 = .ok (.iload_n 3, 1) := by decide +kernel
theorem dX8_firm_37 : decode cX8_firm 37 = .ok (.iconst (-1), 1) := by decide +kernel
theorem dX8_firm_38 : decode cX8_firm 38 = .ok (.if_icmp .ne 49, 3) := by decide +kernel
theorem dX8_firm_41 : decode cX8_firm 41 = .ok (.aload_n 0, 1) := by decide +kernel
theorem dX8_firm_42 : decode cX8_firm 42 = .ok (.getfield 31, 3) := by decide +kernel
theorem dX8_firm_45 : decode cX8_firm 45 = .ok (.getfield 133, 3) := by decide +kernel
theorem dX8_firm_48 : decode cX8_firm 48 = .ok (.iload_n 1, 1) := by decide +kernel
theorem dX8_firm_49 : decode cX8_firm 49 = .ok (.iload 4, 2) := by decide +kernel
theorem dX8_firm_51 : decode cX8_firm 51 = .ok (.iastore, 1) := by decide +kernel
theorem dX8_firm_52 : decode cX8_firm 52 = .ok (.aload_n 0, 1) := by decide +kernel
theorem dX8_firm_53 : decode cX8_firm 53 = .ok (.getfield 74, 3) := by decide +kernel
theorem dX8_firm_56 : decode cX8_firm 56 = .ok (.aload_n 0, 1) := by decide +kernel
theorem dX8_firm_57 : decode cX8_firm 57 = .ok (.getfield 38, 3) := by decide +kernel
theorem dX8_firm_60 : decode cX8_firm 60 = .ok (.iconst 0, 1) := by decide +kernel
theorem dX8_firm_61 : decode cX8_firm 61 = .ok (.invokevirtual 205, 3) := by decide +kernel
theorem dX8_firm_64 : decode cX8_firm 64 = .ok (.aload_n 0, 1) := by decide +kernel
theorem dX8_firm_65 : decode cX8_firm 65 = .ok (.getfield 74, 3) := by decide +kernel
theorem dX8_firm_68 : decode cX8_firm 68 = .ok (.getfield 209, 3) := by decide +kernel
theorem dX8_firm_71 : decode cX8_firm 71 = .ok (.iload_n 1, 1) := by decide +kernel
theorem dX8_firm_72 : decode cX8_firm 72 = .ok (.iushr, 1) := by decide +kernel
theorem dX8_firm_73 : decode cX8_firm 73 = .ok (.iconst 1, 1) := by decide +kernel
theorem dX8_firm_74 : decode cX8_firm 74 = .ok (.iand, 1) := by decide +kernel
theorem dX8_firm_75 : decode cX8_firm 75 = .ok (.ifCond .ne 6, 3) := by decide +kernel
theorem dX8_firm_78 : decode cX8_firm 78 = .ok (.iload 4, 2) := by decide +kernel
theorem dX8_firm_80 : decode cX8_firm 80 = .ok (.istore_n 3, 1) := by decide +kernel
theorem dX8_firm_81 : decode cX8_firm 81 = .ok (.iinc 4 1, 3) := by decide +kernel
theorem dX8_firm_84 : decode cX8_firm 84 = .ok (.goto (-55), 3) := by decide +kernel
theorem dX8_firm_87 : decode cX8_firm 87 = .ok (.aload_n 0, 1) := by decide +kernel
theorem dX8_firm_88 : decode cX8_firm 88 = .ok (.getfield 31, 3) := by decide +kernel
theorem dX8_firm_91 : decode cX8_firm 91 = .ok (.getfield 133, 3) := by decide +kernel
theorem dX8_firm_94 : decode cX8_firm 94 = .ok (.iload_n 1, 1) := by decide +kernel
theorem dX8_firm_95 : decode cX8_firm 95 = .ok (.iload_n 2, 1) := by decide +kernel
theorem dX8_firm_96 : decode cX8_firm 96 = .ok (.iastore, 1) := by decide +kernel
theorem dX8_firm_97 : decode cX8_firm 97 = .ok (.iload_n 3, 1) := by decide +kernel
theorem dX8_firm_98 : decode cX8_firm 98 = .ok (.ireturn, 1) := by decide +kernel
theorem dX8_relay_0 : decode cX8_relay 0 = .ok (.aload_n 0, 1) := by decide +kernel
theorem dX8_relay_1 : decode cX8_relay 1 = .ok (.getfield 31, 3) := by decide +kernel
theorem dX8_relay_4 : decode cX8_relay 4 = .ok (.iload_n 1, 1) := by decide +kernel
theorem dX8_relay_5 : decode cX8_relay 5 = .ok (.invokevirtual 127, 3) := by decide +kernel
theorem dX8_relay_8 : decode cX8_relay 8 = .ok (.ifCond .eq 10, 3) := by decide +kernel
theorem dX8_relay_11 : decode cX8_relay 11 = .ok (.iload_n 2, 1) := by decide +kernel
theorem dX8_relay_12 : decode cX8_relay 12 = .ok (.invokestatic 90, 3) := by decide +kernel
theorem dX8_relay_15 : decode cX8_relay 15 = .ok (.ifCond .ne 6, 3) := by decide +kernel
theorem dX8_relay_18 : decode cX8_relay 18 = .ok (.bipush (-2), 2) := by decide +kernel
theorem dX8_relay_20 : decode cX8_relay 20 = .ok (.ireturn, 1) := by decide +kernel
theorem dX8_relay_21 : decode cX8_relay 21 = .ok (.iconst (-1), 1) := by decide +kernel
theorem dX8_relay_22 : decode cX8_relay 22 = .ok (.istore_n 3, 1) := by decide +kernel
theorem dX8_relay_23 : decode cX8_relay 23 = .ok (.iconst (-1), 1) := by decide +kernel
theorem dX8_relay_24 : decode cX8_relay 24 = .ok (.istore 4, 2) := by decide +kernel
theorem dX8_relay_26 : decode cX8_relay 26 = .ok (.iconst 0, 1) := by decide +kernel
theorem dX8_relay_27 : decode cX8_relay 27 = .ok (.istore 5, 2) := by decide +kernel
theorem dX8_relay_29 : decode cX8_relay 29 = .ok (.iload 5, 2) := by decide +kernel
theorem dX8_relay_31 : decode cX8_relay 31 = .ok (.bipush 40, 2) := by decide +kernel
theorem dX8_relay_33 : decode cX8_relay 33 = .ok (.if_icmp .ge 96, 3) := by decide +kernel
theorem dX8_relay_36 : decode cX8_relay 36 = .ok (.aload_n 0, 1) := by decide +kernel
theorem dX8_relay_37 : decode cX8_relay 37 = .ok (.getfield 24, 3) := by decide +kernel
theorem dX8_relay_40 : decode cX8_relay 40 = .ok (.getfield 119, 3) := by decide +kernel
theorem dX8_relay_43 : decode cX8_relay 43 = .ok (.iconst 0, 1) := by decide +kernel
theorem dX8_relay_44 : decode cX8_relay 44 = .ok (.iload 5, 2) := by decide +kernel
theorem dX8_relay_46 : decode cX8_relay 46 = .ok (.invokestatic 123, 3) := by decide +kernel
theorem dX8_relay_49 : decode cX8_relay 49 = .ok (.istore 6, 2) := by decide +kernel
theorem dX8_relay_51 : decode cX8_relay 51 = .ok (.iload 6, 2) := by decide +kernel
theorem dX8_relay_53 : decode cX8_relay 53 = .ok (.iconst (-1), 1) := by decide +kernel
theorem dX8_relay_54 : decode cX8_relay 54 = .ok (.if_icmp .ne 6, 3) := by decide +kernel
theorem dX8_relay_57 : decode cX8_relay 57 = .ok (.goto 66, 3) := by decide +kernel
theorem dX8_relay_60 : decode cX8_relay 60 = .ok (.aload_n 0, 1) := by decide +kernel
theorem dX8_relay_61 : decode cX8_relay 61 = .ok (.getfield 24, 3) := by decide +kernel
theorem dX8_relay_64 : decode cX8_relay 64 = .ok (.iload 5, 2) := by decide +kernel
theorem dX8_relay_66 : decode cX8_relay 66 = .ok (.iload 6, 2) := by decide +kernel
theorem dX8_relay_68 : decode cX8_relay 68 = .ok (.iload_n 1, 1) := by decide +kernel
theorem dX8_relay_69 : decode cX8_relay 69 = .ok (.invokevirtual 212, 3) := by decide +kernel
theorem dX8_relay_72 : decode cX8_relay 72 = .ok (.aload_n 0, 1) := by decide +kernel
theorem dX8_relay_73 : decode cX8_relay 73 = .ok (.getfield 74, 3) := by decide +kernel
theorem dX8_relay_76 : decode cX8_relay 76 = .ok (.aload_n 0, 1) := by decide +kernel
theorem dX8_relay_77 : decode cX8_relay 77 = .ok (.getfield 38, 3) := by decide +kernel
theorem dX8_relay_80 : decode cX8_relay 80 = .ok (.iconst 0, 1) := by decide +kernel
theorem dX8_relay_81 : decode cX8_relay 81 = .ok (.invokevirtual 205, 3) := by decide +kernel
theorem dX8_relay_84 : decode cX8_relay 84 = .ok (.aload_n 0, 1) := by decide +kernel
theorem dX8_relay_85 : decode cX8_relay 85 = .ok (.getfield 24, 3) := by decide +kernel
theorem dX8_relay_88 : decode cX8_relay 88 = .ok (.iload 5, 2) := by decide +kernel
theorem dX8_relay_90 : decode cX8_relay 90 = .ok (.iload_n 1, 1) := by decide +kernel
theorem dX8_relay_91 : decode cX8_relay 91 = .ok (.iload 6, 2) := by decide +kernel
theorem dX8_relay_93 : decode cX8_relay 93 = .ok (.invokevirtual 212, 3) := by decide +kernel
theorem dX8_relay_96 : decode cX8_relay 96 = .ok (.aload_n 0, 1) := by decide +kernel
theorem dX8_relay_97 : decode cX8_relay 97 = .ok (.getfield 74, 3) := by decide +kernel
theorem dX8_relay_100 : decode cX8_relay 100 = .ok (.invokevirtual 215, 3) := by decide +kernel
theorem dX8_relay_103 : decode cX8_relay 103 = .ok (.istore 7, 2) := by decide +kernel
theorem dX8_relay_105 : decode cX8_relay 105 = .ok (.iload_n 3, 1) := by decide +kernel
theorem dX8_relay_106 : decode cX8_relay 106 = .ok (.iconst (-1), 1) := by decide +kernel
theorem dX8_relay_107 : decode cX8_relay 107 = .ok (.if_icmp .eq 9, 3) := by decide +kernel
theorem dX8_relay_110 : decode cX8_relay 110 = .ok (.iload 7, 2) := by decide +kernel
theorem dX8_relay_112 : decode cX8_relay 112 = .ok (.iload_n 3, 1) := by decide +kernel
theorem dX8_relay_113 : decode cX8_relay 113 = .ok (.if_icmp .ge 10, 3) := by decide +kernel
theorem dX8_relay_116 : decode cX8_relay 116 = .ok (.iload 7, 2) := by decide +kernel
theorem dX8_relay_118 : decode cX8_relay 118 = .ok (.istore_n 3, 1) := by decide +kernel
theorem dX8_relay_119 : decode cX8_relay 119 = .ok (.iload 5, 2) := by decide +kernel
theorem dX8_relay_121 : decode cX8_relay 121 = .ok (.istore 4, 2) := by decide +kernel
theorem dX8_relay_123 : decode cX8_relay 123 = .ok (.iinc 5 1, 3) := by decide +kernel
theorem dX8_relay_126 : decode cX8_relay 126 = .ok (.goto (-97), 3) := by decide +kernel
theorem dX8_relay_129 : decode cX8_relay 129 = .ok (.iload_n 2, 1) := by decide +kernel
theorem dX8_relay_130 : decode cX8_relay 130 = .ok (.ifCond .ne 8, 3) := by decide +kernel
theorem dX8_relay_133 : decode cX8_relay 133 = .ok (.iload 4, 2) := by decide +kernel
theorem dX8_relay_135 : decode cX8_relay 135 = .ok (.goto 4, 3) := by decide +kernel
theorem dX8_relay_138 : decode cX8_relay 138 = .ok (.iload_n 3, 1) := by decide +kernel
theorem dX8_relay_139 : decode cX8_relay 139 = .ok (.ireturn, 1) := by decide +kernel
theorem dX8_lift_0 : decode cX8_lift 0 = .ok (.iload_n 1, 1) := by decide +kernel
theorem dX8_lift_1 : decode cX8_lift 1 = .ok (.iload_n 2, 1) := by decide +kernel
theorem dX8_lift_2 : decode cX8_lift 2 = .ok (.invokestatic 115, 3) := by decide +kernel
theorem dX8_lift_5 : decode cX8_lift 5 = .ok (.ifCond .ne 6, 3) := by decide +kernel
theorem dX8_lift_8 : decode cX8_lift 8 = .ok (.bipush (-2), 2) := by decide +kernel
theorem dX8_lift_10 : decode cX8_lift 10 = .ok (.ireturn, 1) := by decide +kernel
theorem dX8_lift_11 : decode cX8_lift 11 = .ok (.aload_n 0, 1) := by decide +kernel
theorem dX8_lift_12 : decode cX8_lift 12 = .ok (.getfield 24, 3) := by decide +kernel
theorem dX8_lift_15 : decode cX8_lift 15 = .ok (.getfield 119, 3) := by decide +kernel
theorem dX8_lift_18 : decode cX8_lift 18 = .ok (.invokestatic 218, 3) := by decide +kernel
theorem dX8_lift_21 : decode cX8_lift 21 = .ok (.lstore_n 3, 1) := by decide +kernel
theorem dX8_lift_22 : decode cX8_lift 22 = .ok (.lconst 1, 1) := by decide +kernel
theorem dX8_lift_23 : decode cX8_lift 23 = .ok (.bipush 8, 2) := by decide +kernel
theorem dX8_lift_25 : decode cX8_lift 25 = .ok (.iload_n 1, 1) := by decide +kernel
theorem dX8_lift_26 : decode cX8_lift 26 = .ok (.imul, 1) := by decide +kernel
theorem dX8_lift_27 : decode cX8_lift 27 = .ok (.iload_n 2, 1) := by decide +kernel
theorem dX8_lift_28 : decode cX8_lift 28 = .ok (.iadd, 1) := by decide +kernel
theorem dX8_lift_29 : decode cX8_lift 29 = .ok (.lshl, 1) := by decide +kernel
theorem dX8_lift_30 : decode cX8_lift 30 = .ok (.lstore 5, 2) := by decide +kernel
theorem dX8_lift_32 : decode cX8_lift 32 = .ok (.lload_n 3, 1) := by decide +kernel
theorem dX8_lift_33 : decode cX8_lift 33 = .ok (.lload 5, 2) := by decide +kernel
theorem dX8_lift_35 : decode cX8_lift 35 = .ok (.land, 1) := by decide +kernel
theorem dX8_lift_36 : decode cX8_lift 36 = .ok (.lconst 0, 1) := by decide +kernel
theorem dX8_lift_37 : decode cX8_lift 37 = .ok (.lcmp, 1) := by decide +kernel
theorem dX8_lift_38 : decode cX8_lift 38 = .ok (.ifCond .ne 5, 3) := by decide +kernel
theorem dX8_lift_41 : decode cX8_lift 41 = .ok (.iconst (-1), 1) := by decide +kernel
theorem dX8_lift_42 : decode cX8_lift 42 = .ok (.ireturn, 1) := by decide +kernel
theorem dX8_lift_43 : decode cX8_lift 43 = .ok (.lload_n 3, 1) := by decide +kernel
theorem dX8_lift_44 : decode cX8_lift 44 = .ok (.invokestatic 222, 3) := by decide +kernel
theorem dX8_lift_47 : decode cX8_lift 47 = .ok (.lload 5, 2) := by decide +kernel
theorem dX8_lift_49 : decode cX8_lift 49 = .ok (.ldc2_w 226, 3) := by decide +kernel
theorem dX8_lift_52 : decode cX8_lift 52 = .ok (.lxor, 1) := by decide +kernel
theorem dX8_lift_53 : decode cX8_lift 53 = .ok (.land, 1) := by decide +kernel
theorem dX8_lift_54 : decode cX8_lift 54 = .ok (.lstore 7, 2) := by decide +kernel
theorem dX8_lift_56 : decode cX8_lift 56 = .ok (.lload 7, 2) := by decide +kernel
theorem dX8_lift_58 : decode cX8_lift 58 = .ok (.lload_n 3, 1) := by decide +kernel
theorem dX8_lift_59 : decode cX8_lift 59 = .ok (.lload 5, 2) := by decide +kernel
theorem dX8_lift_61 : decode cX8_lift 61 = .ok (.ldc2_w 226, 3) := by decide +kernel
theorem dX8_lift_64 : decode cX8_lift 64 = .ok (.lxor, 1) := by decide +kernel
theorem dX8_lift_65 : decode cX8_lift 65 = .ok (.land, 1) := by decide +kernel
theorem dX8_lift_66 : decode cX8_lift 66 = .ok (.invokestatic 222, 3) := by decide +kernel
theorem dX8_lift_69 : decode cX8_lift 69 = .ok (.ldc2_w 226, 3) := by decide +kernel
theorem dX8_lift_72 : decode cX8_lift 72 = .ok (.lxor, 1) := by decide +kernel
theorem dX8_lift_73 : decode cX8_lift 73 = .ok (.land, 1) := by decide +kernel
theorem dX8_lift_74 : decode cX8_lift 74 = .ok (.invokestatic 228, 3) := by decide +kernel
theorem dX8_lift_77 : decode cX8_lift 77 = .ok (.ireturn, 1) := by decide +kernel
theorem dX8_seen_0 : decode cX8_seen 0 = .ok (.iload_n 1, 1) := by decide +kernel
theorem dX8_seen_1 : decode cX8_seen 1 = .ok (.invokestatic 148, 3) := by decide +kernel
theorem dX8_seen_4 : decode cX8_seen 4 = .ok (.ifCond .eq 22, 3) := by decide +kernel
theorem dX8_seen_7 : decode cX8_seen 7 = .ok (.iload_n 2, 1) := by decide +kernel
theorem dX8_seen_8 : decode cX8_seen 8 = .ok (.iload_n 3, 1) := by decide +kernel
theorem dX8_seen_9 : decode cX8_seen 9 = .ok (.invokestatic 115, 3) := by decide +kernel
theorem dX8_seen_12 : decode cX8_seen 12 = .ok (.ifCond .eq 14, 3) := by decide +kernel
theorem dX8_seen_15 : decode cX8_seen 15 = .ok (.iload 4, 2) := by decide +kernel
theorem dX8_seen_17 : decode cX8_seen 17 = .ok (.iconst 0, 1) := by decide +kernel
theorem dX8_seen_18 : decode cX8_seen 18 = .ok (.bipush 8, 2) := by decide +kernel
theorem dX8_seen_20 : decode cX8_seen 20 = .ok (.invokestatic 94, 3) := by decide +kernel
theorem dX8_seen_23 : decode cX8_seen 23 = .ok (.ifCond .ne 6, 3) := by decide +kernel
theorem dX8_seen_26 : decode cX8_seen 26 = .ok (.bipush (-2), 2) := by decide +kernel
theorem dX8_seen_28 : decode cX8_seen 28 = .ok (.ireturn, 1) := by decide +kernel
theorem dX8_seen_29 : decode cX8_seen 29 = .ok (.aload_n 0, 1) := by decide +kernel
theorem dX8_seen_30 : decode cX8_seen 30 = .ok (.getfield 55, 3) := by decide +kernel
theorem dX8_seen_33 : decode cX8_seen 33 = .ok (.getfield 234, 3) := by decide +kernel
theorem dX8_seen_36 : decode cX8_seen 36 = .ok (.bipush 8, 2) := by decide +kernel
theorem dX8_seen_38 : decode cX8_seen 38 = .ok (.if_icmp .lt 6, 3) := by decide +kernel
theorem dX8_seen_41 : decode cX8_seen 41 = .ok (.bipush (-4), 2) := by decide +kernel
theorem dX8_seen_43 : decode cX8_seen 43 = .ok (.ireturn, 1) := by decide +kernel
theorem dX8_seen_44 : decode cX8_seen 44 = .ok (.aload_n 0, 1) := by decide +kernel
theorem dX8_seen_45 : decode cX8_seen 45 = .ok (.getfield 55, 3) := by decide +kernel
theorem dX8_seen_48 : decode cX8_seen 48 = .ok (.iload_n 1, 1) := by decide +kernel
theorem dX8_seen_49 : decode cX8_seen 49 = .ok (.bipush 8, 2) := by decide +kernel
theorem dX8_seen_51 : decode cX8_seen 51 = .ok (.iload_n 2, 1) := by decide +kernel
theorem dX8_seen_52 : decode cX8_seen 52 = .ok (.imul, 1) := by decide +kernel
theorem dX8_seen_53 : decode cX8_seen 53 = .ok (.iload_n 3, 1) := by decide +kernel
theorem dX8_seen_54 : decode cX8_seen 54 = .ok (.iadd, 1) := by decide +kernel
theorem dX8_seen_55 : decode cX8_seen 55 = .ok (.iload 4, 2) := by decide +kernel
theorem dX8_seen_57 : decode cX8_seen 57 = .ok (.bipush 8, 2) := by decide +kernel
theorem dX8_seen_59 : decode cX8_seen 59 = .ok (.if_icmp .ne 7, 3) := by decide +kernel
theorem dX8_seen_62 : decode cX8_seen 62 = .ok (.iconst (-1), 1) := by decide +kernel
theorem dX8_seen_63 : decode cX8_seen 63 = .ok (.goto 5, 3) := by decide +kernel
theorem dX8_seen_66 : decode cX8_seen 66 = .ok (.iload 4, 2) := by decide +kernel
theorem dX8_seen_68 : decode cX8_seen 68 = .ok (.invokevirtual 235, 3) := by decide +kernel
theorem dX8_seen_71 : decode cX8_seen 71 = .ok (.aload_n 0, 1) := by decide +kernel
theorem dX8_seen_72 : decode cX8_seen 72 = .ok (.getfield 55, 3) := by decide +kernel
theorem dX8_seen_75 : decode cX8_seen 75 = .ok (.getfield 234, 3) := by decide +kernel
theorem dX8_seen_78 : decode cX8_seen 78 = .ok (.ireturn, 1) := by decide +kernel
theorem dX8_forget_0 : decode cX8_forget 0 = .ok (.aload_n 0, 1) := by decide +kernel
theorem dX8_forget_1 : decode cX8_forget 1 = .ok (.getfield 55, 3) := by decide +kernel
theorem dX8_forget_4 : decode cX8_forget 4 = .ok (.getfield 234, 3) := by decide +kernel
theorem dX8_forget_7 : decode cX8_forget 7 = .ok (.istore_n 1, 1) := by decide +kernel
theorem dX8_forget_8 : decode cX8_forget 8 = .ok (.aload_n 0, 1) := by decide +kernel
theorem dX8_forget_9 : decode cX8_forget 9 = .ok (.getfield 55, 3) := by decide +kernel
theorem dX8_forget_12 : decode cX8_forget 12 = .ok (.iconst 0, 1) := by decide +kernel
theorem dX8_forget_13 : decode cX8_forget 13 = .ok (.putfield 234, 3) := by decide +kernel
theorem dX8_forget_16 : decode cX8_forget 16 = .ok (.iload_n 1, 1) := by decide +kernel
theorem dX8_forget_17 : decode cX8_forget 17 = .ok (.ireturn, 1) := by decide +kernel
theorem dX8_never_0 : decode cX8_never 0 = .ok (.iconst 0, 1) := by decide +kernel
theorem dX8_never_1 : decode cX8_never 1 = .ok (.istore_n 1, 1) := by decide +kernel
theorem dX8_never_2 : decode cX8_never 2 = .ok (.iconst 0, 1) := by decide +kernel
theorem dX8_never_3 : decode cX8_never 3 = .ok (.istore_n 2, 1) := by decide +kernel
theorem dX8_never_4 : decode cX8_never 4 = .ok (.iload_n 2, 1) := by decide +kernel
theorem dX8_never_5 : decode cX8_never 5 = .ok (.aload_n 0, 1) := by decide +kernel
theorem dX8_never_6 : decode cX8_never 6 = .ok (.getfield 38, 3) := by decide +kernel
theorem dX8_never_9 : decode cX8_never 9 = .ok (.getfield 142, 3) := by decide +kernel
theorem dX8_never_12 : decode cX8_never 12 = .ok (.if_icmp .ge 43, 3) := by decide +kernel
theorem dX8_never_15 : decode cX8_never 15 = .ok (.aload_n 0, 1) := by decide +kernel
theorem dX8_never_16 : decode cX8_never 16 = .ok (.getfield 74, 3) := by decide +kernel
theorem dX8_never_19 : decode cX8_never 19 = .ok (.aload_n 0, 1) := by decide +kernel
theorem dX8_never_20 : decode cX8_never 20 = .ok (.getfield 38, 3) := by decide +kernel
theorem dX8_never_23 : decode cX8_never 23 = .ok (.iconst 1, 1) := by decide +kernel
theorem dX8_never_24 : decode cX8_never 24 = .ok (.iload_n 2, 1) := by decide +kernel
theorem dX8_never_25 : decode cX8_never 25 = .ok (.ishl, 1) := by decide +kernel
theorem dX8_never_26 : decode cX8_never 26 = .ok (.invokevirtual 205, 3) := by decide +kernel
theorem dX8_never_29 : decode cX8_never 29 = .ok (.aload_n 0, 1) := by decide +kernel
theorem dX8_never_30 : decode cX8_never 30 = .ok (.getfield 55, 3) := by decide +kernel
theorem dX8_never_33 : decode cX8_never 33 = .ok (.aload_n 0, 1) := by decide +kernel
theorem dX8_never_34 : decode cX8_never 34 = .ok (.getfield 74, 3) := by decide +kernel
theorem dX8_never_37 : decode cX8_never 37 = .ok (.invokevirtual 236, 3) := by decide +kernel
theorem dX8_never_40 : decode cX8_never 40 = .ok (.ifCond .eq 9, 3) := by decide +kernel
theorem dX8_never_43 : decode cX8_never 43 = .ok (.iload_n 1, 1) := by decide +kernel
theorem dX8_never_44 : decode cX8_never 44 = .ok (.iconst 1, 1) := by decide +kernel
theorem dX8_never_45 : decode cX8_never 45 = .ok (.iload_n 2, 1) := by decide +kernel
theorem dX8_never_46 : decode cX8_never 46 = .ok (.ishl, 1) := by decide +kernel
theorem dX8_never_47 : decode cX8_never 47 = .ok (.ior, 1) := by decide +kernel
theorem dX8_never_48 : decode cX8_never 48 = .ok (.istore_n 1, 1) := by decide +kernel
theorem dX8_never_49 : decode cX8_never 49 = .ok (.iinc 2 1, 3) := by decide +kernel
theorem dX8_never_52 : decode cX8_never 52 = .ok (.goto (-48), 3) := by decide +kernel
theorem dX8_never_55 : decode cX8_never 55 = .ok (.iload_n 1, 1) := by decide +kernel
theorem dX8_never_56 : decode cX8_never 56 = .ok (.ireturn, 1) := by decide +kernel
theorem dX8_was_0 : decode cX8_was 0 = .ok (.aload_n 0, 1) := by decide +kernel
theorem dX8_was_1 : decode cX8_was 1 = .ok (.getfield 31, 3) := by decide +kernel
theorem dX8_was_4 : decode cX8_was 4 = .ok (.iload_n 1, 1) := by decide +kernel
theorem dX8_was_5 : decode cX8_was 5 = .ok (.invokevirtual 127, 3) := by decide +kernel
theorem dX8_was_8 : decode cX8_was 8 = .ok (.ifCond .eq 10, 3) := by decide +kernel
theorem dX8_was_11 : decode cX8_was 11 = .ok (.iload_n 2, 1) := by decide +kernel
theorem dX8_was_12 : decode cX8_was 12 = .ok (.invokestatic 90, 3) := by decide +kernel
theorem dX8_was_15 : decode cX8_was 15 = .ok (.ifCond .ne 6, 3) := by decide +kernel
theorem dX8_was_18 : decode cX8_was 18 = .ok (.bipush (-2), 2) := by decide +kernel
theorem dX8_was_20 : decode cX8_was 20 = .ok (.ireturn, 1) := by decide +kernel
theorem dX8_was_21 : decode cX8_was 21 = .ok (.iload_n 2, 1) := by decide +kernel
theorem dX8_was_22 : decode cX8_was 22 = .ok (.ifCond .ne 13, 3) := by decide +kernel
theorem dX8_was_25 : decode cX8_was 25 = .ok (.aload_n 0, 1) := by decide +kernel
theorem dX8_was_26 : decode cX8_was 26 = .ok (.getfield 31, 3) := by decide +kernel
theorem dX8_was_29 : decode cX8_was 29 = .ok (.getfield 133, 3) := by decide +kernel
theorem dX8_was_32 : decode cX8_was 32 = .ok (.goto 10, 3) := by decide +kernel
theorem dX8_was_35 : decode cX8_was 35 = .ok (.aload_n 0, 1) := by decide +kernel
theorem dX8_was_36 : decode cX8_was 36 = .ok (.getfield 31, 3) := by decide +kernel
theorem dX8_was_39 : decode cX8_was 39 = .ok (.getfield 130, 3) := by decide +kernel
theorem dX8_was_42 : decode cX8_was 42 = .ok (.astore_n 3, 1) := by decide +kernel
theorem dX8_was_43 : decode cX8_was 43 = .ok (.iload_n 2, 1) := by decide +kernel
theorem dX8_was_44 : decode cX8_was 44 = .ok (.ifCond .ne 7, 3) := by decide +kernel
theorem dX8_was_47 : decode cX8_was 47 = .ok (.iconst 1, 1) := by decide +kernel
theorem dX8_was_48 : decode cX8_was 48 = .ok (.goto 4, 3) := by decide +kernel
theorem dX8_was_51 : decode cX8_was 51 = .ok (.iconst 0, 1) := by decide +kernel
theorem dX8_was_52 : decode cX8_was 52 = .ok (.istore 4, 2) := by decide +kernel
theorem dX8_was_54 : decode cX8_was 54 = .ok (.iload_n 2, 1) := by decide +kernel
theorem dX8_was_55 : decode cX8_was 55 = .ok (.ifCond .ne 8, 3) := by decide +kernel
theorem dX8_was_58 : decode cX8_was 58 = .ok (.bipush 9, 2) := by decide +kernel
theorem dX8_was_60 : decode cX8_was 60 = .ok (.goto 4, 3) := by decide +kernel
theorem dX8_was_63 : decode cX8_was 63 = .ok (.iconst 3, 1) := by decide +kernel
theorem dX8_was_64 : decode cX8_was 64 = .ok (.istore 5, 2) := by decide +kernel
theorem dX8_was_66 : decode cX8_was 66 = .ok (.aload_n 3, 1) := by decide +kernel
theorem dX8_was_67 : decode cX8_was 67 = .ok (.iload_n 1, 1) := by decide +kernel
theorem dX8_was_68 : decode cX8_was 68 = .ok (.iaload, 1) := by decide +kernel
theorem dX8_was_69 : decode cX8_was 69 = .ok (.istore 6, 2) := by decide +kernel
theorem dX8_was_71 : decode cX8_was 71 = .ok (.iconst 0, 1) := by decide +kernel
theorem dX8_was_72 : decode cX8_was 72 = .ok (.istore 7, 2) := by decide +kernel
theorem dX8_was_74 : decode cX8_was 74 = .ok (.iload 4, 2) := by decide +kernel
theorem dX8_was_76 : decode cX8_was 76 = .ok (.istore 8, 2) := by decide +kernel
theorem dX8_was_78 : decode cX8_was 78 = .ok (.iload 8, 2) := by decide +kernel
theorem dX8_was_80 : decode cX8_was 80 = .ok (.iload 5, 2) := by decide +kernel
theorem dX8_was_82 : decode cX8_was 82 = .ok (.if_icmp .gt 49, 3) := by decide +kernel
theorem dX8_was_85 : decode cX8_was 85 = .ok (.aload_n 3, 1) := by decide +kernel
theorem dX8_was_86 : decode cX8_was 86 = .ok (.iload_n 1, 1) := by decide +kernel
theorem dX8_was_87 : decode cX8_was 87 = .ok (.iload 8, 2) := by decide +kernel
theorem dX8_was_89 : decode cX8_was 89 = .ok (.iastore, 1) := by decide +kernel
theorem dX8_was_90 : decode cX8_was 90 = .ok (.aload_n 0, 1) := by decide +kernel
theorem dX8_was_91 : decode cX8_was 91 = .ok (.getfield 74, 3) := by decide +kernel
theorem dX8_was_94 : decode cX8_was 94 = .ok (.aload_n 0, 1) := by decide +kernel
theorem dX8_was_95 : decode cX8_was 95 = .ok (.getfield 38, 3) := by decide +kernel
theorem dX8_was_98 : decode cX8_was 98 = .ok (.iconst 0, 1) := by decide +kernel
theorem dX8_was_99 : decode cX8_was 99 = .ok (.invokevirtual 205, 3) := by decide +kernel
theorem dX8_was_102 : decode cX8_was 102 = .ok (.aload_n 0, 1) := by decide +kernel
theorem dX8_was_103 : decode cX8_was 103 = .ok (.getfield 55, 3) := by decide +kernel
theorem dX8_was_106 : decode cX8_was 106 = .ok (.aload_n 0, 1) := by decide +kernel
theorem dX8_was_107 : decode cX8_was 107 = .ok (.getfield 74, 3) := by decide +kernel
theorem dX8_was_110 : decode cX8_was 110 = .ok (.invokevirtual 236, 3) := by decide +kernel
theorem dX8_was_113 : decode cX8_was 113 = .ok (.ifCond .eq 12, 3) := by decide +kernel
theorem dX8_was_116 : decode cX8_was 116 = .ok (.iload 7, 2) := by decide +kernel
theorem dX8_was_118 : decode cX8_was 118 = .ok (.iconst 1, 1) := by decide +kernel
theorem dX8_was_119 : decode cX8_was 119 = .ok (.iload 8, 2) := by decide +kernel
theorem dX8_was_121 : decode cX8_was 121 = .ok (.ishl, 1) := by decide +kernel
theorem dX8_was_122 : decode cX8_was 122 = .ok (.ior, 1) := by decide +kernel
theorem dX8_was_123 : decode cX8_was 123 = .ok (.istore 7, 2) := by decide +kernel
theorem dX8_was_125 : decode cX8_was 125 = .ok (.iinc 8 1, 3) := by decide +kernel
theorem dX8_was_128 : decode cX8_was 128 = .ok (.goto (-50), 3) := by decide +kernel
theorem dX8_was_131 : decode cX8_was 131 = .ok (.aload_n 3, 1) := by decide +kernel
theorem dX8_was_132 : decode cX8_was 132 = .ok (.iload_n 1, 1) := by decide +kernel
theorem dX8_was_133 : decode cX8_was 133 = .ok (.iload 6, 2) := by decide +kernel
theorem dX8_was_135 : decode cX8_was 135 = .ok (.iastore, 1) := by decide +kernel
theorem dX8_was_136 : decode cX8_was 136 = .ok (.iload 7, 2) := by decide +kernel
theorem dX8_was_138 : decode cX8_was 138 = .ok (.ireturn, 1) := by decide +kernel
theorem dX8_ask_0 : decode cX8_ask 0 = .ok (.aload_n 0, 1) := by decide +kernel
theorem dX8_ask_1 : decode cX8_ask 1 = .ok (.getfield 31, 3) := by decide +kernel
theorem dX8_ask_4 : decode cX8_ask 4 = .ok (.iload_n 1, 1) := by decide +kernel
theorem dX8_ask_5 : decode cX8_ask 5 = .ok (.invokevirtual 127, 3) := by decide +kernel
theorem dX8_ask_8 : decode cX8_ask 8 = .ok (.ifCond .ne 6, 3) := by decide +kernel
theorem dX8_ask_11 : decode cX8_ask 11 = .ok (.bipush (-2), 2) := by decide +kernel
theorem dX8_ask_13 : decode cX8_ask 13 = .ok (.ireturn, 1) := by decide +kernel
theorem dX8_ask_14 : decode cX8_ask 14 = .ok (.aload_n 0, 1) := by decide +kernel
theorem dX8_ask_15 : decode cX8_ask 15 = .ok (.getfield 31, 3) := by decide +kernel
theorem dX8_ask_18 : decode cX8_ask 18 = .ok (.getfield 133, 3) := by decide +kernel
theorem dX8_ask_21 : decode cX8_ask 21 = .ok (.iload_n 1, 1) := by decide +kernel
theorem dX8_ask_22 : decode cX8_ask 22 = .ok (.iaload, 1) := by decide +kernel
theorem dX8_ask_23 : decode cX8_ask 23 = .ok (.istore_n 2, 1) := by decide +kernel
theorem dX8_ask_24 : decode cX8_ask 24 = .ok (.iconst 0, 1) := by decide +kernel
theorem dX8_ask_25 : decode cX8_ask 25 = .ok (.istore_n 3, 1) := by decide +kernel
theorem dX8_ask_26 : decode cX8_ask 26 = .ok (.iconst 1, 1) := by decide +kernel
theorem dX8_ask_27 : decode cX8_ask 27 = .ok (.istore 4, 2) := by decide +kernel
theorem dX8_ask_29 : decode cX8_ask 29 = .ok (.iload 4, 2) := by decide +kernel
theorem dX8_ask_31 : decode cX8_ask 31 = .ok (.bipush 9, 2) := by decide +kernel
theorem dX8_ask_33 : decode cX8_ask 33 = .ok (.if_icmp .gt 64, 3) := by decide +kernel
theorem dX8_ask_36 : decode cX8_ask 36 = .ok (.aload_n 0, 1) := by decide +kernel
theorem dX8_ask_37 : decode cX8_ask 37 = .ok (.getfield 31, 3) := by decide +kernel
theorem dX8_ask_40 : decode cX8_ask 40 = .ok (.getfield 133, 3) := by decide +kernel
theorem dX8_ask_43 : decode cX8_ask 43 = .ok (.iload_n 1, 1) := by decide +kernel
theorem dX8_ask_44 : decode cX8_ask 44 = .ok (.iload 4, 2) := by decide +kernel
theorem dX8_ask_46 : decode cX8_ask 46 = .ok (.iastore, 1) := by decide +kernel
theorem dX8_ask_47 : decode cX8_ask 47 = .ok (.aload_n 0, 1) := by decide +kernel
theorem dX8_ask_48 : decode cX8_ask 48 = .ok (.getfield 74, 3) := by decide +kernel
theorem dX8_ask_51 : decode cX8_ask 51 = .ok (.aload_n 0, 1) := by decide +kernel
theorem dX8_ask_52 : decode cX8_ask 52 = .ok (.getfield 38, 3) := by decide +kernel
theorem dX8_ask_55 : decode cX8_ask 55 = .ok (.iconst 0, 1) := by decide +kernel
theorem dX8_ask_56 : decode cX8_ask 56 = .ok (.invokevirtual 205, 3) := by decide +kernel
theorem dX8_ask_59 : decode cX8_ask 59 = .ok (.aload_n 0, 1) := by decide +kernel
theorem dX8_ask_60 : decode cX8_ask 60 = .ok (.getfield 55, 3) := by decide +kernel
theorem dX8_ask_63 : decode cX8_ask 63 = .ok (.aload_n 0, 1) := by decide +kernel
theorem dX8_ask_64 : decode cX8_ask 64 = .ok (.getfield 74, 3) := by decide +kernel
theorem dX8_ask_67 : decode cX8_ask 67 = .ok (.invokevirtual 236, 3) := by decide +kernel
theorem dX8_ask_70 : decode cX8_ask 70 = .ok (.ifCond .eq 21, 3) := by decide +kernel
theorem dX8_ask_73 : decode cX8_ask 73 = .ok (.aload_n 0, 1) := by decide +kernel
theorem dX8_ask_74 : decode cX8_ask 74 = .ok (.getfield 74, 3) := by decide +kernel
theorem dX8_ask_77 : decode cX8_ask 77 = .ok (.aload_n 0, 1) := by decide +kernel
theorem dX8_ask_78 : decode cX8_ask 78 = .ok (.getfield 77, 3) := by decide +kernel
theorem dX8_ask_81 : decode cX8_ask 81 = .ok (.iload_n 3, 1) := by decide +kernel
theorem dX8_ask_82 : decode cX8_ask 82 = .ok (.bipush 20, 2) := by decide +kernel
theorem dX8_ask_84 : decode cX8_ask 84 = .ok (.imul, 1) := by decide +kernel
theorem dX8_ask_85 : decode cX8_ask 85 = .ok (.invokevirtual 240, 3) := by decide +kernel
theorem dX8_ask_88 : decode cX8_ask 88 = .ok (.iinc 3 1, 3) := by decide +kernel
theorem dX8_ask_91 : decode cX8_ask 91 = .ok (.iinc 4 1, 3) := by decide +kernel
theorem dX8_ask_94 : decode cX8_ask 94 = .ok (.goto (-65), 3) := by decide +kernel
theorem dX8_ask_97 : decode cX8_ask 97 = .ok (.aload_n 0, 1) := by decide +kernel
theorem dX8_ask_98 : decode cX8_ask 98 = .ok (.getfield 31, 3) := by decide +kernel
theorem dX8_ask_101 : decode cX8_ask 101 = .ok (.getfield 133, 3) := by decide +kernel
theorem dX8_ask_104 : decode cX8_ask 104 = .ok (.iload_n 1, 1) := by decide +kernel
theorem dX8_ask_105 : decode cX8_ask 105 = .ok (.iload_n 2, 1) := by decide +kernel
theorem dX8_ask_106 : decode cX8_ask 106 = .ok (.iastore, 1) := by decide +kernel
theorem dX8_ask_107 : decode cX8_ask 107 = .ok (.iconst 0, 1) := by decide +kernel
theorem dX8_ask_108 : decode cX8_ask 108 = .ok (.istore 4, 2) := by decide +kernel
theorem dX8_ask_110 : decode cX8_ask 110 = .ok (.aload_n 0, 1) := by decide +kernel
theorem dX8_ask_111 : decode cX8_ask 111 = .ok (.iload_n 3, 1) := by decide +kernel
theorem dX8_ask_112 : decode cX8_ask 112 = .ok (.iconst 0, 1) := by decide +kernel
theorem dX8_ask_113 : decode cX8_ask 113 = .ok (.invokevirtual 244, 3) := by decide +kernel
theorem dX8_ask_116 : decode cX8_ask 116 = .ok (.istore 5, 2) := by decide +kernel
theorem dX8_ask_118 : decode cX8_ask 118 = .ok (.iconst 1, 1) := by decide +kernel
theorem dX8_ask_119 : decode cX8_ask 119 = .ok (.istore 6, 2) := by decide +kernel
theorem dX8_ask_121 : decode cX8_ask 121 = .ok (.iload 6, 2) := by decide +kernel
theorem dX8_ask_123 : decode cX8_ask 123 = .ok (.bipush 20, 2) := by decide +kernel
theorem dX8_ask_125 : decode cX8_ask 125 = .ok (.if_icmp .ge 33, 3) := by decide +kernel
theorem dX8_ask_128 : decode cX8_ask 128 = .ok (.aload_n 0, 1) := by decide +kernel
theorem dX8_ask_129 : decode cX8_ask 129 = .ok (.iload_n 3, 1) := by decide +kernel
theorem dX8_ask_130 : decode cX8_ask 130 = .ok (.iload 6, 2) := by decide +kernel
theorem dX8_ask_132 : decode cX8_ask 132 = .ok (.invokevirtual 244, 3) := by decide +kernel
theorem dX8_ask_135 : decode cX8_ask 135 = .ok (.istore 7, 2) := by decide +kernel
theorem dX8_ask_137 : decode cX8_ask 137 = .ok (.iload 7, 2) := by decide +kernel
theorem dX8_ask_139 : decode cX8_ask 139 = .ok (.iload 5, 2) := by decide +kernel
theorem dX8_ask_141 : decode cX8_ask 141 = .ok (.if_icmp .ge 11, 3) := by decide +kernel
theorem dX8_ask_144 : decode cX8_ask 144 = .ok (.iload 7, 2) := by decide +kernel
theorem dX8_ask_146 : decode cX8_ask 146 = .ok (.istore 5, 2) := by decide +kernel
theorem dX8_ask_148 : decode cX8_ask 148 = .ok (.iload 6, 2) := by decide +kernel
theorem dX8_ask_150 : decode cX8_ask 150 = .ok (.istore 4, 2) := by decide +kernel
theorem dX8_ask_152 : decode cX8_ask 152 = .ok (.iinc 6 1, 3) := by decide +kernel
theorem dX8_ask_155 : decode cX8_ask 155 = .ok (.goto (-34), 3) := by decide +kernel
theorem dX8_ask_158 : decode cX8_ask 158 = .ok (.iload 4, 2) := by decide +kernel
theorem dX8_ask_160 : decode cX8_ask 160 = .ok (.ireturn, 1) := by decide +kernel
theorem dX8_luck_0 : decode cX8_luck 0 = .ok (.iload_n 1, 1) := by decide +kernel
theorem dX8_luck_1 : decode cX8_luck 1 = .ok (.iconst 0, 1) := by decide +kernel
theorem dX8_luck_2 : decode cX8_luck 2 = .ok (.bipush 16, 2) := by decide +kernel
theorem dX8_luck_4 : decode cX8_luck 4 = .ok (.invokestatic 94, 3) := by decide +kernel
theorem dX8_luck_7 : decode cX8_luck 7 = .ok (.ifCond .eq 10, 3) := by decide +kernel
theorem dX8_luck_10 : decode cX8_luck 10 = .ok (.iload_n 2, 1) := by decide +kernel
theorem dX8_luck_11 : decode cX8_luck 11 = .ok (.invokestatic 90, 3) := by decide +kernel
theorem dX8_luck_14 : decode cX8_luck 14 = .ok (.ifCond .ne 7, 3) := by decide +kernel
theorem dX8_luck_17 : decode cX8_luck 17 = .ok (.ldc2_w 247, 3) := by decide +kernel
theorem dX8_luck_20 : decode cX8_luck 20 = .ok (.lreturn, 1) := by decide +kernel
theorem dX8_luck_21 : decode cX8_luck 21 = .ok (.lconst 0, 1) := by decide +kernel
theorem dX8_luck_22 : decode cX8_luck 22 = .ok (.lstore_n 3, 1) := by decide +kernel
theorem dX8_luck_23 : decode cX8_luck 23 = .ok (.iconst 0, 1) := by decide +kernel
theorem dX8_luck_24 : decode cX8_luck 24 = .ok (.istore 5, 2) := by decide +kernel
theorem dX8_luck_26 : decode cX8_luck 26 = .ok (.iload 5, 2) := by decide +kernel
theorem dX8_luck_28 : decode cX8_luck 28 = .ok (.iconst 1, 1) := by decide +kernel
theorem dX8_luck_29 : decode cX8_luck 29 = .ok (.aload_n 0, 1) := by decide +kernel
theorem dX8_luck_30 : decode cX8_luck 30 = .ok (.getfield 38, 3) := by decide +kernel
theorem dX8_luck_33 : decode cX8_luck 33 = .ok (.getfield 142, 3) := by decide +kernel
theorem dX8_luck_36 : decode cX8_luck 36 = .ok (.ishl, 1) := by decide +kernel
theorem dX8_luck_37 : decode cX8_luck 37 = .ok (.if_icmp .ge 42, 3) := by decide +kernel
theorem dX8_luck_40 : decode cX8_luck 40 = .ok (.aload_n 0, 1) := by decide +kernel
theorem dX8_luck_41 : decode cX8_luck 41 = .ok (.getfield 74, 3) := by decide +kernel
theorem dX8_luck_44 : decode cX8_luck 44 = .ok (.aload_n 0, 1) := by decide +kernel
theorem dX8_luck_45 : decode cX8_luck 45 = .ok (.getfield 38, 3) := by decide +kernel
theorem dX8_luck_48 : decode cX8_luck 48 = .ok (.iload 5, 2) := by decide +kernel
theorem dX8_luck_50 : decode cX8_luck 50 = .ok (.invokevirtual 205, 3) := by decide +kernel
theorem dX8_luck_53 : decode cX8_luck 53 = .ok (.aload_n 0, 1) := by decide +kernel
theorem dX8_luck_54 : decode cX8_luck 54 = .ok (.getfield 74, 3) := by decide +kernel
theorem dX8_luck_57 : decode cX8_luck 57 = .ok (.invokevirtual 198, 3) := by decide +kernel
theorem dX8_luck_60 : decode cX8_luck 60 = .ok (.ifCond .ne 13, 3) := by decide +kernel
theorem dX8_luck_63 : decode cX8_luck 63 = .ok (.lload_n 3, 1) := by decide +kernel
theorem dX8_luck_64 : decode cX8_luck 64 = .ok (.aload_n 0, 1) := by decide +kernel
theorem dX8_luck_65 : decode cX8_luck 65 = .ok (.iload 5, 2) := by decide +kernel
theorem dX8_luck_67 : decode cX8_luck 67 = .ok (.iload_n 1, 1) := by decide +kernel
theorem dX8_luck_68 : decode cX8_luck 68 = .ok (.invokevirtual 249, 3) := by decide +kernel
theorem dX8_luck_71 : decode cX8_luck 71 = .ok (.ladd, 1) := by decide +kernel
theorem dX8_luck_72 : decode cX8_luck 72 = .ok (.lstore_n 3, 1) := by decide +kernel
theorem dX8_luck_73 : decode cX8_luck 73 = .ok (.iinc 5 1, 3) := by decide +kernel
theorem dX8_luck_76 : decode cX8_luck 76 = .ok (.goto (-50), 3) := by decide +kernel
theorem dX8_luck_79 : decode cX8_luck 79 = .ok (.iconst 4, 1) := by decide +kernel
theorem dX8_luck_80 : decode cX8_luck 80 = .ok (.aload_n 0, 1) := by decide +kernel
theorem dX8_luck_81 : decode cX8_luck 81 = .ok (.getfield 38, 3) := by decide +kernel
theorem dX8_luck_84 : decode cX8_luck 84 = .ok (.getfield 142, 3) := by decide +kernel
theorem dX8_luck_87 : decode cX8_luck 87 = .ok (.imul, 1) := by decide +kernel
theorem dX8_luck_88 : decode cX8_luck 88 = .ok (.istore 5, 2) := by decide +kernel
theorem dX8_luck_90 : decode cX8_luck 90 = .ok (.lconst 1, 1) := by decide +kernel
theorem dX8_luck_91 : decode cX8_luck 91 = .ok (.iload 5, 2) := by decide +kernel
theorem dX8_luck_93 : decode cX8_luck 93 = .ok (.lshl, 1) := by decide +kernel
theorem dX8_luck_94 : decode cX8_luck 94 = .ok (.lstore 6, 2) := by decide +kernel
theorem dX8_luck_96 : decode cX8_luck 96 = .ok (.iconst 0, 1) := by decide +kernel
theorem dX8_luck_97 : decode cX8_luck 97 = .ok (.istore 8, 2) := by decide +kernel
theorem dX8_luck_99 : decode cX8_luck 99 = .ok (.iload 8, 2) := by decide +kernel
theorem dX8_luck_101 : decode cX8_luck 101 = .ok (.iload 5, 2) := by decide +kernel
theorem dX8_luck_103 : decode cX8_luck 103 = .ok (.if_icmp .ge 27, 3) := by decide +kernel
theorem dX8_luck_106 : decode cX8_luck 106 = .ok (.lload_n 3, 1) := by decide +kernel
theorem dX8_luck_107 : decode cX8_luck 107 = .ok (.lconst 1, 1) := by decide +kernel
theorem dX8_luck_108 : decode cX8_luck 108 = .ok (.land, 1) := by decide +kernel
theorem dX8_luck_109 : decode cX8_luck 109 = .ok (.lconst 0, 1) := by decide +kernel
theorem dX8_luck_110 : decode cX8_luck 110 = .ok (.lcmp, 1) := by decide +kernel
theorem dX8_luck_111 : decode cX8_luck 111 = .ok (.ifCond .ne 19, 3) := by decide +kernel
theorem dX8_luck_114 : decode cX8_luck 114 = .ok (.lload_n 3, 1) := by decide +kernel
theorem dX8_luck_115 : decode cX8_luck 115 = .ok (.iconst 1, 1) := by decide +kernel
theorem dX8_luck_116 : decode cX8_luck 116 = .ok (.lshr, 1) := by decide +kernel
theorem dX8_luck_117 : decode cX8_luck 117 = .ok (.lstore_n 3, 1) := by decide +kernel
theorem dX8_luck_118 : decode cX8_luck 118 = .ok (.lload 6, 2) := by decide +kernel
theorem dX8_luck_120 : decode cX8_luck 120 = .ok (.iconst 1, 1) := by decide +kernel
theorem dX8_luck_121 : decode cX8_luck 121 = .ok (.lshr, 1) := by decide +kernel
theorem dX8_luck_122 : decode cX8_luck 122 = .ok (.lstore 6, 2) := by decide +kernel
theorem dX8_luck_124 : decode cX8_luck 124 = .ok (.iinc 8 1, 3) := by decide +kernel
theorem dX8_luck_127 : decode cX8_luck 127 = .ok (.goto (-28), 3) := by decide +kernel
theorem dX8_luck_130 : decode cX8_luck 130 = .ok (.iload_n 2, 1) := by decide +kernel
theorem dX8_luck_131 : decode cX8_luck 131 = .ok (.ifCond .ne 7, 3) := by decide +kernel
theorem dX8_luck_134 : decode cX8_luck 134 = .ok (.lload_n 3, 1) := by decide +kernel
theorem dX8_luck_135 : decode cX8_luck 135 = .ok (.goto 5, 3) := by decide +kernel
theorem dX8_luck_138 : decode cX8_luck 138 = .ok (.lload 6, 2) := by decide +kernel
theorem dX8_luck_140 : decode cX8_luck 140 = .ok (.lreturn, 1) := by decide +kernel
theorem dX8_ages_0 : decode cX8_ages 0 = .ok (.iload_n 2, 1) := by decide +kernel
theorem dX8_ages_1 : decode cX8_ages 1 = .ok (.iconst 0, 1) := by decide +kernel
theorem dX8_ages_2 : decode cX8_ages 2 = .ok (.bipush 6, 2) := by decide +kernel
theorem dX8_ages_4 : decode cX8_ages 4 = .ok (.invokestatic 94, 3) := by decide +kernel
theorem dX8_ages_7 : decode cX8_ages 7 = .ok (.ifCond .eq 10, 3) := by decide +kernel
theorem dX8_ages_10 : decode cX8_ages 10 = .ok (.iload_n 3, 1) := by decide +kernel
theorem dX8_ages_11 : decode cX8_ages 11 = .ok (.invokestatic 90, 3) := by decide +kernel
theorem dX8_ages_14 : decode cX8_ages 14 = .ok (.ifCond .ne 6, 3) := by decide +kernel
theorem dX8_ages_17 : decode cX8_ages 17 = .ok (.bipush (-2), 2) := by decide +kernel
theorem dX8_ages_19 : decode cX8_ages 19 = .ok (.ireturn, 1) := by decide +kernel
theorem dX8_ages_20 : decode cX8_ages 20 = .ok (.iload_n 1, 1) := by decide +kernel
theorem dX8_ages_21 : decode cX8_ages 21 = .ok (.istore 4, 2) := by decide +kernel
theorem dX8_ages_23 : decode cX8_ages 23 = .ok (.aload_n 0, 1) := by decide +kernel
theorem dX8_ages_24 : decode cX8_ages 24 = .ok (.getfield 42, 3) := by decide +kernel
theorem dX8_ages_27 : decode cX8_ages 27 = .ok (.iconst 0, 1) := by decide +kernel
theorem dX8_ages_28 : decode cX8_ages 28 = .ok (.putfield 142, 3) := by decide +kernel
theorem dX8_ages_31 : decode cX8_ages 31 = .ok (.iconst 0, 1) := by decide +kernel
theorem dX8_ages_32 : decode cX8_ages 32 = .ok (.istore 5, 2) := by decide +kernel
theorem dX8_ages_34 : decode cX8_ages 34 = .ok (.iload 5, 2) := by decide +kernel
theorem dX8_ages_36 : decode cX8_ages 36 = .ok (.iload_n 2, 1) := by decide +kernel
theorem dX8_ages_37 : decode cX8_ages 37 = .ok (.if_icmp .ge 52, 3) := by decide +kernel
theorem dX8_ages_40 : decode cX8_ages 40 = .ok (.iload 4, 2) := by decide +kernel
theorem dX8_ages_42 : decode cX8_ages 42 = .ok (.invokestatic 253, 3) := by decide +kernel
theorem dX8_ages_45 : decode cX8_ages 45 = .ok (.istore 4, 2) := by decide +kernel
theorem dX8_ages_47 : decode cX8_ages 47 = .ok (.iload 4, 2) := by decide +kernel
theorem dX8_ages_49 : decode cX8_ages 49 = .ok (.bipush 16, 2) := by decide +kernel
theorem dX8_ages_51 : decode cX8_ages 51 = .ok (.iushr, 1) := by decide +kernel
theorem dX8_ages_52 : decode cX8_ages 52 = .ok (.bipush 20, 2) := by decide +kernel
theorem dX8_ages_54 : decode cX8_ages 54 = .ok (.irem, 1) := by decide +kernel
theorem dX8_ages_55 : decode cX8_ages 55 = .ok (.istore 6, 2) := by decide +kernel
theorem dX8_ages_57 : decode cX8_ages 57 = .ok (.iload 4, 2) := by decide +kernel
theorem dX8_ages_59 : decode cX8_ages 59 = .ok (.invokestatic 253, 3) := by decide +kernel
theorem dX8_ages_62 : decode cX8_ages 62 = .ok (.istore 4, 2) := by decide +kernel
theorem dX8_ages_64 : decode cX8_ages 64 = .ok (.aload_n 0, 1) := by decide +kernel
theorem dX8_ages_65 : decode cX8_ages 65 = .ok (.getfield 42, 3) := by decide +kernel
theorem dX8_ages_68 : decode cX8_ages 68 = .ok (.iload 6, 2) := by decide +kernel
theorem dX8_ages_70 : decode cX8_ages 70 = .ok (.iload 4, 2) := by decide +kernel
theorem dX8_ages_72 : decode cX8_ages 72 = .ok (.bipush 16, 2) := by decide +kernel
theorem dX8_ages_74 : decode cX8_ages 74 = .ok (.iushr, 1) := by decide +kernel
theorem dX8_ages_75 : decode cX8_ages 75 = .ok (.bipush 15, 2) := by decide +kernel
theorem dX8_ages_77 : decode cX8_ages 77 = .ok (.irem, 1) := by decide +kernel
theorem dX8_ages_78 : decode cX8_ages 78 = .ok (.iconst 1, 1) := by decide +kernel
theorem dX8_ages_79 : decode cX8_ages 79 = .ok (.iadd, 1) := by decide +kernel
theorem dX8_ages_80 : decode cX8_ages 80 = .ok (.invokevirtual 144, 3) := by decide +kernel
theorem dX8_ages_83 : decode cX8_ages 83 = .ok (.iinc 5 1, 3) := by decide +kernel
theorem dX8_ages_86 : decode cX8_ages 86 = .ok (.goto (-52), 3) := by decide +kernel
theorem dX8_ages_89 : decode cX8_ages 89 = .ok (.aload_n 0, 1) := by decide +kernel
theorem dX8_ages_90 : decode cX8_ages 90 = .ok (.getfield 74, 3) := by decide +kernel
theorem dX8_ages_93 : decode cX8_ages 93 = .ok (.aload_n 0, 1) := by decide +kernel
theorem dX8_ages_94 : decode cX8_ages 94 = .ok (.getfield 42, 3) := by decide +kernel
theorem dX8_ages_97 : decode cX8_ages 97 = .ok (.iconst 0, 1) := by decide +kernel
theorem dX8_ages_98 : decode cX8_ages 98 = .ok (.invokevirtual 205, 3) := by decide +kernel
theorem dX8_ages_101 : decode cX8_ages 101 = .ok (.iload_n 3, 1) := by decide +kernel
theorem dX8_ages_102 : decode cX8_ages 102 = .ok (.ifCond .ne 19, 3) := by decide +kernel
theorem dX8_ages_105 : decode cX8_ages 105 = .ok (.aload_n 0, 1) := by decide +kernel
theorem dX8_ages_106 : decode cX8_ages 106 = .ok (.getfield 74, 3) := by decide +kernel
theorem dX8_ages_109 : decode cX8_ages 109 = .ok (.getfield 256, 3) := by decide +kernel
theorem dX8_ages_112 : decode cX8_ages 112 = .ok (.bipush 19, 2) := by decide +kernel
theorem dX8_ages_114 : decode cX8_ages 114 = .ok (.laload, 1) := by decide +kernel
theorem dX8_ages_115 : decode cX8_ages 115 = .ok (.invokestatic 228, 3) := by decide +kernel
theorem dX8_ages_118 : decode cX8_ages 118 = .ok (.goto 10, 3) := by decide +kernel
theorem dX8_ages_121 : decode cX8_ages 121 = .ok (.aload_n 0, 1) := by decide +kernel
theorem dX8_ages_122 : decode cX8_ages 122 = .ok (.getfield 74, 3) := by decide +kernel
theorem dX8_ages_125 : decode cX8_ages 125 = .ok (.invokevirtual 198, 3) := by decide +kernel
theorem dX8_ages_128 : decode cX8_ages 128 = .ok (.ireturn, 1) := by decide +kernel
theorem dX8_sheet_0 : decode cX8_sheet 0 = .ok (.iload_n 1, 1) := by decide +kernel
theorem dX8_sheet_1 : decode cX8_sheet 1 = .ok (.invokestatic 155, 3) := by decide +kernel
theorem dX8_sheet_4 : decode cX8_sheet 4 = .ok (.ifCond .eq 16, 3) := by decide +kernel
theorem dX8_sheet_7 : decode cX8_sheet 7 = .ok (.iload_n 2, 1) := by decide +kernel
theorem dX8_sheet_8 : decode cX8_sheet 8 = .ok (.invokestatic 259, 3) := by decide +kernel
theorem dX8_sheet_11 : decode cX8_sheet 11 = .ok (.ifCond .eq 9, 3) := by decide +kernel
theorem dX8_sheet_14 : decode cX8_sheet 14 = .ok (.iload_n 3, 1) := by decide +kernel
theorem dX8_sheet_15 : decode cX8_sheet 15 = .ok (.bipush 60, 2) := by decide +kernel
theorem dX8_sheet_17 : decode cX8_sheet 17 = .ok (.if_icmp .le 6, 3) := by decide +kernel
theorem dX8_sheet_20 : decode cX8_sheet 20 = .ok (.bipush (-2), 2) := by decide +kernel
theorem dX8_sheet_22 : decode cX8_sheet 22 = .ok (.ireturn, 1) := by decide +kernel
theorem dX8_sheet_23 : decode cX8_sheet 23 = .ok (.iload_n 3, 1) := by decide +kernel
theorem dX8_sheet_24 : decode cX8_sheet 24 = .ok (.ifCond .ge 9, 3) := by decide +kernel
theorem dX8_sheet_27 : decode cX8_sheet 27 = .ok (.aload_n 0, 1) := by decide +kernel
theorem dX8_sheet_28 : decode cX8_sheet 28 = .ok (.iconst 5, 1) := by decide +kernel
theorem dX8_sheet_29 : decode cX8_sheet 29 = .ok (.invokevirtual 161, 3) := by decide +kernel
theorem dX8_sheet_32 : decode cX8_sheet 32 = .ok (.ireturn, 1) := by decide +kernel
theorem dX8_sheet_33 : decode cX8_sheet 33 = .ok (.aload_n 0, 1) := by decide +kernel
theorem dX8_sheet_34 : decode cX8_sheet 34 = .ok (.getfield 61, 3) := by decide +kernel
theorem dX8_sheet_37 : decode cX8_sheet 37 = .ok (.iload_n 1, 1) := by decide +kernel
theorem dX8_sheet_38 : decode cX8_sheet 38 = .ok (.aaload, 1) := by decide +kernel
theorem dX8_sheet_39 : decode cX8_sheet 39 = .ok (.astore 4, 2) := by decide +kernel
theorem dX8_sheet_41 : decode cX8_sheet 41 = .ok (.aload 4, 2) := by decide +kernel
theorem dX8_sheet_43 : decode cX8_sheet 43 = .ok (.getfield 168, 3) := by decide +kernel
theorem dX8_sheet_46 : decode cX8_sheet 46 = .ok (.iconst 0, 1) := by decide +kernel
theorem dX8_sheet_47 : decode cX8_sheet 47 = .ok (.invokestatic 262, 3) := by decide +kernel
theorem dX8_sheet_50 : decode cX8_sheet 50 = .ok (.aload 4, 2) := by decide +kernel
theorem dX8_sheet_52 : decode cX8_sheet 52 = .ok (.iload_n 2, 1) := by decide +kernel
theorem dX8_sheet_53 : decode cX8_sheet 53 = .ok (.putfield 158, 3) := by decide +kernel
theorem dX8_sheet_56 : decode cX8_sheet 56 = .ok (.aload 4, 2) := by decide +kernel
theorem dX8_sheet_58 : decode cX8_sheet 58 = .ok (.iload_n 3, 1) := by decide +kernel
theorem dX8_sheet_59 : decode cX8_sheet 59 = .ok (.putfield 165, 3) := by decide +kernel
theorem dX8_sheet_62 : decode cX8_sheet 62 = .ok (.iload_n 3, 1) := by decide +kernel
theorem dX8_sheet_63 : decode cX8_sheet 63 = .ok (.ireturn, 1) := by decide +kernel
theorem dX8_lose_0 : decode cX8_lose 0 = .ok (.iload_n 1, 1) := by decide +kernel
theorem dX8_lose_1 : decode cX8_lose 1 = .ok (.invokestatic 155, 3) := by decide +kernel
theorem dX8_lose_4 : decode cX8_lose 4 = .ok (.ifCond .ne 6, 3) := by decide +kernel
theorem dX8_lose_7 : decode cX8_lose 7 = .ok (.bipush (-2), 2) := by decide +kernel
theorem dX8_lose_9 : decode cX8_lose 9 = .ok (.ireturn, 1) := by decide +kernel
theorem dX8_lose_10 : decode cX8_lose 10 = .ok (.aload_n 0, 1) := by decide +kernel
theorem dX8_lose_11 : decode cX8_lose 11 = .ok (.getfield 61, 3) := by decide +kernel
theorem dX8_lose_14 : decode cX8_lose 14 = .ok (.iload_n 1, 1) := by decide +kernel
theorem dX8_lose_15 : decode cX8_lose 15 = .ok (.aaload, 1) := by decide +kernel
theorem dX8_lose_16 : decode cX8_lose 16 = .ok (.astore_n 2, 1) := by decide +kernel
theorem dX8_lose_17 : decode cX8_lose 17 = .ok (.aload_n 2, 1) := by decide +kernel
theorem dX8_lose_18 : decode cX8_lose 18 = .ok (.getfield 158, 3) := by decide +kernel
theorem dX8_lose_21 : decode cX8_lose 21 = .ok (.iconst (-1), 1) := by decide +kernel
theorem dX8_lose_22 : decode cX8_lose 22 = .ok (.if_icmp .ne 9, 3) := by decide +kernel
theorem dX8_lose_25 : decode cX8_lose 25 = .ok (.aload_n 0, 1) := by decide +kernel
theorem dX8_lose_26 : decode cX8_lose 26 = .ok (.iconst 1, 1) := by decide +kernel
theorem dX8_lose_27 : decode cX8_lose 27 = .ok (.invokevirtual 161, 3) := by decide +kernel
theorem dX8_lose_30 : decode cX8_lose 30 = .ok (.ireturn, 1) := by decide +kernel
theorem dX8_lose_31 : decode cX8_lose 31 = .ok (.aload_n 2, 1) := by decide +kernel
theorem dX8_lose_32 : decode cX8_lose 32 = .ok (.iconst (-1), 1) := by decide +kernel
theorem dX8_lose_33 : decode cX8_lose 33 = .ok (.putfield 158, 3) := by decide +kernel
theorem dX8_lose_36 : decode cX8_lose 36 = .ok (.aload_n 2, 1) := by decide +kernel
theorem dX8_lose_37 : decode cX8_lose 37 = .ok (.getfield 165, 3) := by decide +kernel
theorem dX8_lose_40 : decode cX8_lose 40 = .ok (.ireturn, 1) := by decide +kernel
theorem dX8_put_0 : decode cX8_put 0 = .ok (.iload_n 1, 1) := by decide +kernel
theorem dX8_put_1 : decode cX8_put 1 = .ok (.invokestatic 155, 3) := by decide +kernel
theorem dX8_put_4 : decode cX8_put 4 = .ok (.ifCond .eq 10, 3) := by decide +kernel
theorem dX8_put_7 : decode cX8_put 7 = .ok (.iload_n 2, 1) := by decide +kernel
theorem dX8_put_8 : decode cX8_put 8 = .ok (.invokestatic 259, 3) := by decide +kernel
theorem dX8_put_11 : decode cX8_put 11 = .ok (.ifCond .ne 6, 3) := by decide +kernel
theorem dX8_put_14 : decode cX8_put 14 = .ok (.bipush (-2), 2) := by decide +kernel
theorem dX8_put_16 : decode cX8_put 16 = .ok (.ireturn, 1) := by decide +kernel
theorem dX8_put_17 : decode cX8_put 17 = .ok (.aload_n 0, 1) := by decide +kernel
theorem dX8_put_18 : decode cX8_put 18 = .ok (.getfield 61, 3) := by decide +kernel
theorem dX8_put_21 : decode cX8_put 21 = .ok (.iload_n 1, 1) := by decide +kernel
theorem dX8_put_22 : decode cX8_put 22 = .ok (.aaload, 1) := by decide +kernel
theorem dX8_put_23 : decode cX8_put 23 = .ok (.iload_n 2, 1) := by decide +kernel
theorem dX8_put_24 : decode cX8_put 24 = .ok (.iload_n 3, 1) := by decide +kernel
theorem dX8_put_25 : decode cX8_put 25 = .ok (.invokevirtual 267, 3) := by decide +kernel
theorem dX8_put_28 : decode cX8_put 28 = .ok (.istore 5, 2) := by decide +kernel
theorem dX8_put_30 : decode cX8_put 30 = .ok (.iload 5, 2) := by decide +kernel
theorem dX8_put_32 : decode cX8_put 32 = .ok (.ifCond .eq 10, 3) := by decide +kernel
theorem dX8_put_35 : decode cX8_put 35 = .ok (.aload_n 0, 1) := by decide +kernel
theorem dX8_put_36 : decode cX8_put 36 = .ok (.iload 5, 2) := by decide +kernel
theorem dX8_put_38 : decode cX8_put 38 = .ok (.invokevirtual 161, 3) := by decide +kernel
theorem dX8_put_41 : decode cX8_put 41 = .ok (.ireturn, 1) := by decide +kernel
theorem dX8_put_42 : decode cX8_put 42 = .ok (.aload_n 0, 1) := by decide +kernel
theorem dX8_put_43 : decode cX8_put 43 = .ok (.getfield 61, 3) := by decide +kernel
theorem dX8_put_46 : decode cX8_put 46 = .ok (.iload_n 1, 1) := by decide +kernel
theorem dX8_put_47 : decode cX8_put 47 = .ok (.aaload, 1) := by decide +kernel
theorem dX8_put_48 : decode cX8_put 48 = .ok (.getfield 168, 3) := by decide +kernel
theorem dX8_put_51 : decode cX8_put 51 = .ok (.iload_n 3, 1) := by decide +kernel
theorem dX8_put_52 : decode cX8_put 52 = .ok (.iload_n 2, 1) := by decide +kernel
theorem dX8_put_53 : decode cX8_put 53 = .ok (.ifCond .ne 9, 3) := by decide +kernel
theorem dX8_put_56 : decode cX8_put 56 = .ok (.iload 4, 2) := by decide +kernel
theorem dX8_put_58 : decode cX8_put 58 = .ok (.i2b, 1) := by decide +kernel
theorem dX8_put_59 : decode cX8_put 59 = .ok (.goto 16, 3) := by decide +kernel
theorem dX8_put_62 : decode cX8_put 62 = .ok (.iload_n 2, 1) := by decide +kernel
theorem dX8_put_63 : decode cX8_put 63 = .ok (.iconst 1, 1) := by decide +kernel
theorem dX8_put_64 : decode cX8_put 64 = .ok (.if_icmp .ne 9, 3) := by decide +kernel
theorem dX8_put_67 : decode cX8_put 67 = .ok (.iload 4, 2) := by decide +kernel
theorem dX8_put_69 : decode cX8_put 69 = .ok (.i2s, 1) := by decide +kernel
theorem dX8_put_70 : decode cX8_put 70 = .ok (.goto 5, 3) := by decide +kernel
theorem dX8_put_73 : decode cX8_put 73 = .ok (.iload 4, 2) := by decide +kernel
theorem dX8_put_75 : decode cX8_put 75 = .ok (.iastore, 1) := by decide +kernel
theorem dX8_put_76 : decode cX8_put 76 = .ok (.iconst 1, 1) := by decide +kernel
theorem dX8_put_77 : decode cX8_put 77 = .ok (.ireturn, 1) := by decide +kernel
theorem dX8_get_0 : decode cX8_get 0 = .ok (.iload_n 1, 1) := by decide +kernel
theorem dX8_get_1 : decode cX8_get 1 = .ok (.invokestatic 155, 3) := by decide +kernel
theorem dX8_get_4 : decode cX8_get 4 = .ok (.ifCond .eq 10, 3) := by decide +kernel
theorem dX8_get_7 : decode cX8_get 7 = .ok (.iload_n 2, 1) := by decide +kernel
theorem dX8_get_8 : decode cX8_get 8 = .ok (.invokestatic 259, 3) := by decide +kernel
theorem dX8_get_11 : decode cX8_get 11 = .ok (.ifCond .ne 7, 3) := by decide +kernel
theorem dX8_get_14 : decode cX8_get 14 = .ok (.ldc_w 272, 3) := by decide +kernel
theorem dX8_get_17 : decode cX8_get 17 = .ok (.ireturn, 1) := by decide +kernel
theorem dX8_get_18 : decode cX8_get 18 = .ok (.aload_n 0, 1) := by decide +kernel
theorem dX8_get_19 : decode cX8_get 19 = .ok (.getfield 61, 3) := by decide +kernel
theorem dX8_get_22 : decode cX8_get 22 = .ok (.iload_n 1, 1) := by decide +kernel
theorem dX8_get_23 : decode cX8_get 23 = .ok (.aaload, 1) := by decide +kernel
theorem dX8_get_24 : decode cX8_get 24 = .ok (.iload_n 2, 1) := by decide +kernel
theorem dX8_get_25 : decode cX8_get 25 = .ok (.iload_n 3, 1) := by decide +kernel
theorem dX8_get_26 : decode cX8_get 26 = .ok (.invokevirtual 267, 3) := by decide +kernel
theorem dX8_get_29 : decode cX8_get 29 = .ok (.istore 4, 2) := by decide +kernel
theorem dX8_get_31 : decode cX8_get 31 = .ok (.iload 4, 2) := by decide +kernel
theorem dX8_get_33 : decode cX8_get 33 = .ok (.ifCond .eq 14, 3) := by decide +kernel
theorem dX8_get_36 : decode cX8_get 36 = .ok (.aload_n 0, 1) := by decide +kernel
theorem dX8_get_37 : decode cX8_get 37 = .ok (.iload 4, 2) := by decide +kernel
theorem dX8_get_39 : decode cX8_get 39 = .ok (.invokevirtual 161, 3) := by decide +kernel
theorem dX8_get_42 : decode cX8_get 42 = .ok (.pop, 1) := by decide +kernel
theorem dX8_get_43 : decode cX8_get 43 = .ok (.ldc_w 272, 3) := by decide +kernel
theorem dX8_get_46 : decode cX8_get 46 = .ok (.ireturn, 1) := by decide +kernel
theorem dX8_get_47 : decode cX8_get 47 = .ok (.aload_n 0, 1) := by decide +kernel
theorem dX8_get_48 : decode cX8_get 48 = .ok (.getfield 61, 3) := by decide +kernel
theorem dX8_get_51 : decode cX8_get 51 = .ok (.iload_n 1, 1) := by decide +kernel
theorem dX8_get_52 : decode cX8_get 52 = .ok (.aaload, 1) := by decide +kernel
theorem dX8_get_53 : decode cX8_get 53 = .ok (.getfield 168, 3) := by decide +kernel
theorem dX8_get_56 : decode cX8_get 56 = .ok (.iload_n 3, 1) := by decide +kernel
theorem dX8_get_57 : decode cX8_get 57 = .ok (.iaload, 1) := by decide +kernel
theorem dX8_get_58 : decode cX8_get 58 = .ok (.ireturn, 1) := by decide +kernel
theorem dX8_copy_0 : decode cX8_copy 0 = .ok (.iload_n 1, 1) := by decide +kernel
theorem dX8_copy_1 : decode cX8_copy 1 = .ok (.invokestatic 155, 3) := by decide +kernel
theorem dX8_copy_4 : decode cX8_copy 4 = .ok (.ifCond .eq 10, 3) := by decide +kernel
theorem dX8_copy_7 : decode cX8_copy 7 = .ok (.iload_n 3, 1) := by decide +kernel
theorem dX8_copy_8 : decode cX8_copy 8 = .ok (.invokestatic 155, 3) := by decide +kernel
theorem dX8_copy_11 : decode cX8_copy 11 = .ok (.ifCond .ne 6, 3) := by decide +kernel
theorem dX8_copy_14 : decode cX8_copy 14 = .ok (.bipush (-2), 2) := by decide +kernel
theorem dX8_copy_16 : decode cX8_copy 16 = .ok (.ireturn, 1) := by decide +kernel
theorem dX8_copy_17 : decode cX8_copy 17 = .ok (.aload_n 0, 1) := by decide +kernel
theorem dX8_copy_18 : decode cX8_copy 18 = .ok (.getfield 61, 3) := by decide +kernel
theorem dX8_copy_21 : decode cX8_copy 21 = .ok (.iload_n 1, 1) := by decide +kernel
theorem dX8_copy_22 : decode cX8_copy 22 = .ok (.aaload, 1) := by decide +kernel
theorem dX8_copy_23 : decode cX8_copy 23 = .ok (.astore 6, 2) := by decide +kernel
theorem dX8_copy_25 : decode cX8_copy 25 = .ok (.aload_n 0, 1) := by decide +kernel
theorem dX8_copy_26 : decode cX8_copy 26 = .ok (.getfield 61, 3) := by decide +kernel
theorem dX8_copy_29 : decode cX8_copy 29 = .ok (.iload_n 3, 1) := by decide +kernel
theorem dX8_copy_30 : decode cX8_copy 30 = .ok (.aaload, 1) := by decide +kernel
theorem dX8_copy_31 : decode cX8_copy 31 = .ok (.astore 7, 2) := by decide +kernel
theorem dX8_copy_33 : decode cX8_copy 33 = .ok (.aload 6, 2) := by decide +kernel
theorem dX8_copy_35 : decode cX8_copy 35 = .ok (.getfield 158, 3) := by decide +kernel
theorem dX8_copy_38 : decode cX8_copy 38 = .ok (.iconst (-1), 1) := by decide +kernel
theorem dX8_copy_39 : decode cX8_copy 39 = .ok (.if_icmp .eq 12, 3) := by decide +kernel
theorem dX8_copy_42 : decode cX8_copy 42 = .ok (.aload 7, 2) := by decide +kernel
theorem dX8_copy_44 : decode cX8_copy 44 = .ok (.getfield 158, 3) := by decide +kernel
theorem dX8_copy_47 : decode cX8_copy 47 = .ok (.iconst (-1), 1) := by decide +kernel
theorem dX8_copy_48 : decode cX8_copy 48 = .ok (.if_icmp .ne 9, 3) := by decide +kernel
theorem dX8_copy_51 : decode cX8_copy 51 = .ok (.aload_n 0, 1) := by decide +kernel
theorem dX8_copy_52 : decode cX8_copy 52 = .ok (.iconst 1, 1) := by decide +kernel
theorem dX8_copy_53 : decode cX8_copy 53 = .ok (.invokevirtual 161, 3) := by decide +kernel
theorem dX8_copy_56 : decode cX8_copy 56 = .ok (.ireturn, 1) := by decide +kernel
theorem dX8_copy_57 : decode cX8_copy 57 = .ok (.aload 6, 2) := by decide +kernel
theorem dX8_copy_59 : decode cX8_copy 59 = .ok (.getfield 158, 3) := by decide +kernel
theorem dX8_copy_62 : decode cX8_copy 62 = .ok (.aload 7, 2) := by decide +kernel
theorem dX8_copy_64 : decode cX8_copy 64 = .ok (.getfield 158, 3) := by decide +kernel
theorem dX8_copy_67 : decode cX8_copy 67 = .ok (.if_icmp .eq 9, 3) := by decide +kernel
theorem dX8_copy_70 : decode cX8_copy 70 = .ok (.aload_n 0, 1) := by decide +kernel
theorem dX8_copy_71 : decode cX8_copy 71 = .ok (.iconst 4, 1) := by decide +kernel
theorem dX8_copy_72 : decode cX8_copy 72 = .ok (.invokevirtual 161, 3) := by decide +kernel
theorem dX8_copy_75 : decode cX8_copy 75 = .ok (.ireturn, 1) := by decide +kernel
theorem dX8_copy_76 : decode cX8_copy 76 = .ok (.aload 6, 2) := by decide +kernel
theorem dX8_copy_78 : decode cX8_copy 78 = .ok (.iload_n 2, 1) := by decide +kernel
theorem dX8_copy_79 : decode cX8_copy 79 = .ok (.iload 5, 2) := by decide +kernel
theorem dX8_copy_81 : decode cX8_copy 81 = .ok (.invokevirtual 273, 3) := by decide +kernel
theorem dX8_copy_84 : decode cX8_copy 84 = .ok (.ifCond .eq 15, 3) := by decide +kernel
theorem dX8_copy_87 : decode cX8_copy 87 = .ok (.aload 7, 2) := by decide +kernel
theorem dX8_copy_89 : decode cX8_copy 89 = .ok (.iload 4, 2) := by decide +kernel
theorem dX8_copy_91 : decode cX8_copy 91 = .ok (.iload 5, 2) := by decide +kernel
theorem dX8_copy_93 : decode cX8_copy 93 = .ok (.invokevirtual 273, 3) := by decide +kernel
theorem dX8_copy_96 : decode cX8_copy 96 = .ok (.ifCond .ne 9, 3) := by decide +kernel
theorem dX8_copy_99 : decode cX8_copy 99 = .ok (.aload_n 0, 1) := by decide +kernel
theorem dX8_copy_100 : decode cX8_copy 100 = .ok (.iconst 2, 1) := by decide +kernel
theorem dX8_copy_101 : decode cX8_copy 101 = .ok (.invokevirtual 161, 3) := by decide +kernel
theorem dX8_copy_104 : decode cX8_copy 104 = .ok (.ireturn, 1) := by decide +kernel
theorem dX8_copy_105 : decode cX8_copy 105 = .ok (.aload 6, 2) := by decide +kernel
theorem dX8_copy_107 : decode cX8_copy 107 = .ok (.getfield 168, 3) := by decide +kernel
theorem dX8_copy_110 : decode cX8_copy 110 = .ok (.iload_n 2, 1) := by decide +kernel
theorem dX8_copy_111 : decode cX8_copy 111 = .ok (.aload 7, 2) := by decide +kernel
theorem dX8_copy_113 : decode cX8_copy 113 = .ok (.getfield 168, 3) := by decide +kernel
theorem dX8_copy_116 : decode cX8_copy 116 = .ok (.iload 4, 2) := by decide +kernel
theorem dX8_copy_118 : decode cX8_copy 118 = .ok (.iload 5, 2) := by decide +kernel
theorem dX8_copy_120 : decode cX8_copy 120 = .ok (.invokestatic 276, 3) := by decide +kernel
theorem dX8_copy_123 : decode cX8_copy 123 = .ok (.iconst 1, 1) := by decide +kernel
theorem dX8_copy_124 : decode cX8_copy 124 = .ok (.ireturn, 1) := by decide +kernel
theorem dX8_write_0 : decode cX8_write 0 = .ok (.iload_n 1, 1) := by decide +kernel
theorem dX8_write_1 : decode cX8_write 1 = .ok (.invokestatic 148, 3) := by decide +kernel
theorem dX8_write_4 : decode cX8_write 4 = .ok (.ifCond .eq 10, 3) := by decide +kernel
theorem dX8_write_7 : decode cX8_write 7 = .ok (.iload_n 2, 1) := by decide +kernel
theorem dX8_write_8 : decode cX8_write 8 = .ok (.invokestatic 155, 3) := by decide +kernel
theorem dX8_write_11 : decode cX8_write 11 = .ok (.ifCond .ne 6, 3) := by decide +kernel
theorem dX8_write_14 : decode cX8_write 14 = .ok (.bipush (-2), 2) := by decide +kernel
theorem dX8_write_16 : decode cX8_write 16 = .ok (.ireturn, 1) := by decide +kernel
theorem dX8_write_17 : decode cX8_write 17 = .ok (.aload_n 0, 1) := by decide +kernel
theorem dX8_write_18 : decode cX8_write 18 = .ok (.getfield 61, 3) := by decide +kernel
theorem dX8_write_21 : decode cX8_write 21 = .ok (.iload_n 2, 1) := by decide +kernel
theorem dX8_write_22 : decode cX8_write 22 = .ok (.aaload, 1) := by decide +kernel
theorem dX8_write_23 : decode cX8_write 23 = .ok (.astore_n 3, 1) := by decide +kernel
theorem dX8_write_24 : decode cX8_write 24 = .ok (.aload_n 3, 1) := by decide +kernel
theorem dX8_write_25 : decode cX8_write 25 = .ok (.getfield 158, 3) := by decide +kernel
theorem dX8_write_28 : decode cX8_write 28 = .ok (.iconst (-1), 1) := by decide +kernel
theorem dX8_write_29 : decode cX8_write 29 = .ok (.if_icmp .ne 9, 3) := by decide +kernel
theorem dX8_write_32 : decode cX8_write 32 = .ok (.aload_n 0, 1) := by decide +kernel
theorem dX8_write_33 : decode cX8_write 33 = .ok (.iconst 1, 1) := by decide +kernel
theorem dX8_write_34 : decode cX8_write 34 = .ok (.invokevirtual 161, 3) := by decide +kernel
theorem dX8_write_37 : decode cX8_write 37 = .ok (.ireturn, 1) := by decide +kernel
theorem dX8_write_38 : decode cX8_write 38 = .ok (.aload_n 3, 1) := by decide +kernel
theorem dX8_write_39 : decode cX8_write 39 = .ok (.getfield 165, 3) := by decide +kernel
theorem dX8_write_42 : decode cX8_write 42 = .ok (.aload_n 0, 1) := by decide +kernel
theorem dX8_write_43 : decode cX8_write 43 = .ok (.getfield 24, 3) := by decide +kernel
theorem dX8_write_46 : decode cX8_write 46 = .ok (.getfield 182, 3) := by decide +kernel
theorem dX8_write_49 : decode cX8_write 49 = .ok (.invokestatic 282, 3) := by decide +kernel
theorem dX8_write_52 : decode cX8_write 52 = .ok (.istore 4, 2) := by decide +kernel
theorem dX8_write_54 : decode cX8_write 54 = .ok (.aload_n 0, 1) := by decide +kernel
theorem dX8_write_55 : decode cX8_write 55 = .ok (.invokevirtual 171, 3) := by decide +kernel
theorem dX8_write_58 : decode cX8_write 58 = .ok (.astore 5, 2) := by decide +kernel
theorem dX8_write_60 : decode cX8_write 60 = .ok (.iconst 0, 1) := by decide +kernel
theorem dX8_write_61 : decode cX8_write 61 = .ok (.istore 6, 2) := by decide +kernel
theorem dX8_write_63 : decode cX8_write 63 = .ok (.iload 6, 2) := by decide +kernel
theorem dX8_write_65 : decode cX8_write 65 = .ok (.iload 4, 2) := by decide +kernel
theorem dX8_write_67 : decode cX8_write 67 = .ok (.if_icmp .ge 24, 3) := by decide +kernel
theorem dX8_write_70 : decode cX8_write 70 = .ok (.aload_n 3, 1) := by decide +kernel
theorem dX8_write_71 : decode cX8_write 71 = .ok (.getfield 168, 3) := by decide +kernel
theorem dX8_write_74 : decode cX8_write 74 = .ok (.iload 6, 2) := by decide +kernel
theorem dX8_write_76 : decode cX8_write 76 = .ok (.aload 5, 2) := by decide +kernel
theorem dX8_write_78 : decode cX8_write 78 = .ok (.iload_n 1, 1) := by decide +kernel
theorem dX8_write_79 : decode cX8_write 79 = .ok (.iload 6, 2) := by decide +kernel
theorem dX8_write_81 : decode cX8_write 81 = .ok (.invokevirtual 185, 3) := by decide +kernel
theorem dX8_write_84 : decode cX8_write 84 = .ok (.iastore, 1) := by decide +kernel
theorem dX8_write_85 : decode cX8_write 85 = .ok (.iinc 6 1, 3) := by decide +kernel
theorem dX8_write_88 : decode cX8_write 88 = .ok (.goto (-25), 3) := by decide +kernel
theorem dX8_write_91 : decode cX8_write 91 = .ok (.iload 4, 2) := by decide +kernel
theorem dX8_write_93 : decode cX8_write 93 = .ok (.ireturn, 1) := by decide +kernel
theorem dX8_count_0 : decode cX8_count 0 = .ok (.iload_n 1, 1) := by decide +kernel
theorem dX8_count_1 : decode cX8_count 1 = .ok (.tableswitch 126 0 8 #[51, 65, 73, 81, 89, 97, 105, 113, 121], 51) := by decide +kernel
theorem dX8_count_52 : decode cX8_count 52 = .ok (.aload_n 0, 1) := by decide +kernel
theorem dX8_count_53 : decode cX8_count 53 = .ok (.getfield 24, 3) := by decide +kernel
theorem dX8_count_56 : decode cX8_count 56 = .ok (.getfield 119, 3) := by decide +kernel
theorem dX8_count_59 : decode cX8_count 59 = .ok (.invokestatic 218, 3) := by decide +kernel
theorem dX8_count_62 : decode cX8_count 62 = .ok (.invokestatic 228, 3) := by decide +kernel
theorem dX8_count_65 : decode cX8_count 65 = .ok (.ireturn, 1) := by decide +kernel
theorem dX8_count_66 : decode cX8_count 66 = .ok (.aload_n 0, 1) := by decide +kernel
theorem dX8_count_67 : decode cX8_count 67 = .ok (.getfield 31, 3) := by decide +kernel
theorem dX8_count_70 : decode cX8_count 70 = .ok (.getfield 204, 3) := by decide +kernel
theorem dX8_count_73 : decode cX8_count 73 = .ok (.ireturn, 1) := by decide +kernel
theorem dX8_count_74 : decode cX8_count 74 = .ok (.aload_n 0, 1) := by decide +kernel
theorem dX8_count_75 : decode cX8_count 75 = .ok (.getfield 14, 3) := by decide +kernel
theorem dX8_count_78 : decode cX8_count 78 = .ok (.getfield 102, 3) := by decide +kernel
theorem dX8_count_81 : decode cX8_count 81 = .ok (.ireturn, 1) := by decide +kernel
theorem dX8_count_82 : decode cX8_count 82 = .ok (.aload_n 0, 1) := by decide +kernel
theorem dX8_count_83 : decode cX8_count 83 = .ok (.getfield 18, 3) := by decide +kernel
theorem dX8_count_86 : decode cX8_count 86 = .ok (.getfield 102, 3) := by decide +kernel
theorem dX8_count_89 : decode cX8_count 89 = .ok (.ireturn, 1) := by decide +kernel
theorem dX8_count_90 : decode cX8_count 90 = .ok (.aload_n 0, 1) := by decide +kernel
theorem dX8_count_91 : decode cX8_count 91 = .ok (.getfield 38, 3) := by decide +kernel
theorem dX8_count_94 : decode cX8_count 94 = .ok (.getfield 142, 3) := by decide +kernel
theorem dX8_count_97 : decode cX8_count 97 = .ok (.ireturn, 1) := by decide +kernel
theorem dX8_count_98 : decode cX8_count 98 = .ok (.aload_n 0, 1) := by decide +kernel
theorem dX8_count_99 : decode cX8_count 99 = .ok (.getfield 48, 3) := by decide +kernel
theorem dX8_count_102 : decode cX8_count 102 = .ok (.getfield 151, 3) := by decide +kernel
theorem dX8_count_105 : decode cX8_count 105 = .ok (.ireturn, 1) := by decide +kernel
theorem dX8_count_106 : decode cX8_count 106 = .ok (.aload_n 0, 1) := by decide +kernel
theorem dX8_count_107 : decode cX8_count 107 = .ok (.invokevirtual 171, 3) := by decide +kernel
theorem dX8_count_110 : decode cX8_count 110 = .ok (.invokevirtual 215, 3) := by decide +kernel
theorem dX8_count_113 : decode cX8_count 113 = .ok (.ireturn, 1) := by decide +kernel
theorem dX8_count_114 : decode cX8_count 114 = .ok (.aload_n 0, 1) := by decide +kernel
theorem dX8_count_115 : decode cX8_count 115 = .ok (.getfield 55, 3) := by decide +kernel
theorem dX8_count_118 : decode cX8_count 118 = .ok (.getfield 234, 3) := by decide +kernel
theorem dX8_count_121 : decode cX8_count 121 = .ok (.ireturn, 1) := by decide +kernel
theorem dX8_count_122 : decode cX8_count 122 = .ok (.aload_n 0, 1) := by decide +kernel
theorem dX8_count_123 : decode cX8_count 123 = .ok (.getfield 85, 3) := by decide +kernel
theorem dX8_count_126 : decode cX8_count 126 = .ok (.ireturn, 1) := by decide +kernel
theorem dX8_count_127 : decode cX8_count 127 = .ok (.bipush (-2), 2) := by decide +kernel
theorem dX8_count_129 : decode cX8_count 129 = .ok (.ireturn, 1) := by decide +kernel
theorem dX8_digest_0 : decode cX8_digest 0 = .ok (.ldc2_w 287, 3) := by decide +kernel
theorem dX8_digest_3 : decode cX8_digest 3 = .ok (.lstore_n 1, 1) := by decide +kernel
theorem dX8_digest_4 : decode cX8_digest 4 = .ok (.iconst 0, 1) := by decide +kernel
theorem dX8_digest_5 : decode cX8_digest 5 = .ok (.istore_n 3, 1) := by decide +kernel
theorem dX8_digest_6 : decode cX8_digest 6 = .ok (.iload_n 3, 1) := by decide +kernel
theorem dX8_digest_7 : decode cX8_digest 7 = .ok (.bipush 7, 2) := by decide +kernel
theorem dX8_digest_9 : decode cX8_digest 9 = .ok (.if_icmp .gt 22, 3) := by decide +kernel
theorem dX8_digest_12 : decode cX8_digest 12 = .ok (.ldc2_w 289, 3) := by decide +kernel
theorem dX8_digest_15 : decode cX8_digest 15 = .ok (.lload_n 1, 1) := by decide +kernel
theorem dX8_digest_16 : decode cX8_digest 16 = .ok (.lmul, 1) := by decide +kernel
theorem dX8_digest_17 : decode cX8_digest 17 = .ok (.aload_n 0, 1) := by decide +kernel
theorem dX8_digest_18 : decode cX8_digest 18 = .ok (.iload_n 3, 1) := by decide +kernel
theorem dX8_digest_19 : decode cX8_digest 19 = .ok (.invokevirtual 291, 3) := by decide +kernel
theorem dX8_digest_22 : decode cX8_digest 22 = .ok (.i2l, 1) := by decide +kernel
theorem dX8_digest_23 : decode cX8_digest 23 = .ok (.ladd, 1) := by decide +kernel
theorem dX8_digest_24 : decode cX8_digest 24 = .ok (.lstore_n 1, 1) := by decide +kernel
theorem dX8_digest_25 : decode cX8_digest 25 = .ok (.iinc 3 1, 3) := by decide +kernel
theorem dX8_digest_28 : decode cX8_digest 28 = .ok (.goto (-22), 3) := by decide +kernel
theorem dX8_digest_31 : decode cX8_digest 31 = .ok (.ldc2_w 289, 3) := by decide +kernel
theorem dX8_digest_34 : decode cX8_digest 34 = .ok (.lload_n 1, 1) := by decide +kernel
theorem dX8_digest_35 : decode cX8_digest 35 = .ok (.lmul, 1) := by decide +kernel
theorem dX8_digest_36 : decode cX8_digest 36 = .ok (.aload_n 0, 1) := by decide +kernel
theorem dX8_digest_37 : decode cX8_digest 37 = .ok (.iconst 0, 1) := by decide +kernel
theorem dX8_digest_38 : decode cX8_digest 38 = .ok (.invokevirtual 294, 3) := by decide +kernel
theorem dX8_digest_41 : decode cX8_digest 41 = .ok (.i2l, 1) := by decide +kernel
theorem dX8_digest_42 : decode cX8_digest 42 = .ok (.ladd, 1) := by decide +kernel
theorem dX8_digest_43 : decode cX8_digest 43 = .ok (.lstore_n 1, 1) := by decide +kernel
theorem dX8_digest_44 : decode cX8_digest 44 = .ok (.ldc2_w 289, 3) := by decide +kernel
theorem dX8_digest_47 : decode cX8_digest 47 = .ok (.lload_n 1, 1) := by decide +kernel
theorem dX8_digest_48 : decode cX8_digest 48 = .ok (.lmul, 1) := by decide +kernel
theorem dX8_digest_49 : decode cX8_digest 49 = .ok (.aload_n 0, 1) := by decide +kernel
theorem dX8_digest_50 : decode cX8_digest 50 = .ok (.iconst 1, 1) := by decide +kernel
theorem dX8_digest_51 : decode cX8_digest 51 = .ok (.invokevirtual 294, 3) := by decide +kernel
theorem dX8_digest_54 : decode cX8_digest 54 = .ok (.i2l, 1) := by decide +kernel
theorem dX8_digest_55 : decode cX8_digest 55 = .ok (.ladd, 1) := by decide +kernel
theorem dX8_digest_56 : decode cX8_digest 56 = .ok (.lstore_n 1, 1) := by decide +kernel
theorem dX8_digest_57 : decode cX8_digest 57 = .ok (.iconst 0, 1) := by decide +kernel
theorem dX8_digest_58 : decode cX8_digest 58 = .ok (.istore_n 3, 1) := by decide +kernel
theorem dX8_digest_59 : decode cX8_digest 59 = .ok (.iload_n 3, 1) := by decide +kernel
theorem dX8_digest_60 : decode cX8_digest 60 = .ok (.iconst 5, 1) := by decide +kernel
theorem dX8_digest_61 : decode cX8_digest 61 = .ok (.if_icmp .ge 125, 3) := by decide +kernel
theorem dX8_digest_64 : decode cX8_digest 64 = .ok (.iconst 0, 1) := by decide +kernel
theorem dX8_digest_65 : decode cX8_digest 65 = .ok (.istore 4, 2) := by decide +kernel
theorem dX8_digest_67 : decode cX8_digest 67 = .ok (.iload 4, 2) := by decide +kernel
theorem dX8_digest_69 : decode cX8_digest 69 = .ok (.bipush 8, 2) := by decide +kernel
theorem dX8_digest_71 : decode cX8_digest 71 = .ok (.if_icmp .ge 109, 3) := by decide +kernel
theorem dX8_digest_74 : decode cX8_digest 74 = .ok (.ldc2_w 289, 3) := by decide +kernel
theorem dX8_digest_77 : decode cX8_digest 77 = .ok (.lload_n 1, 1) := by decide +kernel
theorem dX8_digest_78 : decode cX8_digest 78 = .ok (.lmul, 1) := by decide +kernel
theorem dX8_digest_79 : decode cX8_digest 79 = .ok (.aload_n 0, 1) := by decide +kernel
theorem dX8_digest_80 : decode cX8_digest 80 = .ok (.iload_n 3, 1) := by decide +kernel
theorem dX8_digest_81 : decode cX8_digest 81 = .ok (.iload 4, 2) := by decide +kernel
theorem dX8_digest_83 : decode cX8_digest 83 = .ok (.invokevirtual 296, 3) := by decide +kernel
theorem dX8_digest_86 : decode cX8_digest 86 = .ok (.i2l, 1) := by decide +kernel
theorem dX8_digest_87 : decode cX8_digest 87 = .ok (.ladd, 1) := by decide +kernel
theorem dX8_digest_88 : decode cX8_digest 88 = .ok (.lstore_n 1, 1) := by decide +kernel
theorem dX8_digest_89 : decode cX8_digest 89 = .ok (.ldc2_w 289, 3) := by decide +kernel
theorem dX8_digest_92 : decode cX8_digest 92 = .ok (.lload_n 1, 1) := by decide +kernel
theorem dX8_digest_93 : decode cX8_digest 93 = .ok (.lmul, 1) := by decide +kernel
theorem dX8_digest_94 : decode cX8_digest 94 = .ok (.aload_n 0, 1) := by decide +kernel
theorem dX8_digest_95 : decode cX8_digest 95 = .ok (.iconst 0, 1) := by decide +kernel
theorem dX8_digest_96 : decode cX8_digest 96 = .ok (.iload_n 3, 1) := by decide +kernel
theorem dX8_digest_97 : decode cX8_digest 97 = .ok (.iload 4, 2) := by decide +kernel
theorem dX8_digest_99 : decode cX8_digest 99 = .ok (.iconst 0, 1) := by decide +kernel
theorem dX8_digest_100 : decode cX8_digest 100 = .ok (.invokevirtual 299, 3) := by decide +kernel
theorem dX8_digest_103 : decode cX8_digest 103 = .ok (.i2l, 1) := by decide +kernel
theorem dX8_digest_104 : decode cX8_digest 104 = .ok (.ladd, 1) := by decide +kernel
theorem dX8_digest_105 : decode cX8_digest 105 = .ok (.lstore_n 1, 1) := by decide +kernel
theorem dX8_digest_106 : decode cX8_digest 106 = .ok (.ldc2_w 289, 3) := by decide +kernel
theorem dX8_digest_109 : decode cX8_digest 109 = .ok (.lload_n 1, 1) := by decide +kernel
theorem dX8_digest_110 : decode cX8_digest 110 = .ok (.lmul, 1) := by decide +kernel
theorem dX8_digest_111 : decode cX8_digest 111 = .ok (.aload_n 0, 1) := by decide +kernel
theorem dX8_digest_112 : decode cX8_digest 112 = .ok (.iconst 0, 1) := by decide +kernel
theorem dX8_digest_113 : decode cX8_digest 113 = .ok (.iload_n 3, 1) := by decide +kernel
theorem dX8_digest_114 : decode cX8_digest 114 = .ok (.iload 4, 2) := by decide +kernel
theorem dX8_digest_116 : decode cX8_digest 116 = .ok (.iconst 1, 1) := by decide +kernel
theorem dX8_digest_117 : decode cX8_digest 117 = .ok (.invokevirtual 299, 3) := by decide +kernel
theorem dX8_digest_120 : decode cX8_digest 120 = .ok (.i2l, 1) := by decide +kernel
theorem dX8_digest_121 : decode cX8_digest 121 = .ok (.ladd, 1) := by decide +kernel
theorem dX8_digest_122 : decode cX8_digest 122 = .ok (.lstore_n 1, 1) := by decide +kernel
theorem dX8_digest_123 : decode cX8_digest 123 = .ok (.ldc2_w 289, 3) := by decide +kernel
theorem dX8_digest_126 : decode cX8_digest 126 = .ok (.lload_n 1, 1) := by decide +kernel
theorem dX8_digest_127 : decode cX8_digest 127 = .ok (.lmul, 1) := by decide +kernel
theorem dX8_digest_128 : decode cX8_digest 128 = .ok (.aload_n 0, 1) := by decide +kernel
theorem dX8_digest_129 : decode cX8_digest 129 = .ok (.bipush 19, 2) := by decide +kernel
theorem dX8_digest_131 : decode cX8_digest 131 = .ok (.iload_n 3, 1) := by decide +kernel
theorem dX8_digest_132 : decode cX8_digest 132 = .ok (.iload 4, 2) := by decide +kernel
theorem dX8_digest_134 : decode cX8_digest 134 = .ok (.iconst 0, 1) := by decide +kernel
theorem dX8_digest_135 : decode cX8_digest 135 = .ok (.invokevirtual 299, 3) := by decide +kernel
theorem dX8_digest_138 : decode cX8_digest 138 = .ok (.i2l, 1) := by decide +kernel
theorem dX8_digest_139 : decode cX8_digest 139 = .ok (.ladd, 1) := by decide +kernel
theorem dX8_digest_140 : decode cX8_digest 140 = .ok (.lstore_n 1, 1) := by decide +kernel
theorem dX8_digest_141 : decode cX8_digest 141 = .ok (.ldc2_w 289, 3) := by decide +kernel
theorem dX8_digest_144 : decode cX8_digest 144 = .ok (.lload_n 1, 1) := by decide +kernel
theorem dX8_digest_145 : decode cX8_digest 145 = .ok (.lmul, 1) := by decide +kernel
theorem dX8_digest_146 : decode cX8_digest 146 = .ok (.aload_n 0, 1) := by decide +kernel
theorem dX8_digest_147 : decode cX8_digest 147 = .ok (.bipush 19, 2) := by decide +kernel
theorem dX8_digest_149 : decode cX8_digest 149 = .ok (.iload_n 3, 1) := by decide +kernel
theorem dX8_digest_150 : decode cX8_digest 150 = .ok (.iload 4, 2) := by decide +kernel
theorem dX8_digest_152 : decode cX8_digest 152 = .ok (.iconst 1, 1) := by decide +kernel
theorem dX8_digest_153 : decode cX8_digest 153 = .ok (.invokevirtual 299, 3) := by decide +kernel
theorem dX8_digest_156 : decode cX8_digest 156 = .ok (.i2l, 1) := by decide +kernel
theorem dX8_digest_157 : decode cX8_digest 157 = .ok (.ladd, 1) := by decide +kernel
theorem dX8_digest_158 : decode cX8_digest 158 = .ok (.lstore_n 1, 1) := by decide +kernel
theorem dX8_digest_159 : decode cX8_digest 159 = .ok (.ldc2_w 289, 3) := by decide +kernel
theorem dX8_digest_162 : decode cX8_digest 162 = .ok (.lload_n 1, 1) := by decide +kernel
theorem dX8_digest_163 : decode cX8_digest 163 = .ok (.lmul, 1) := by decide +kernel
theorem dX8_digest_164 : decode cX8_digest 164 = .ok (.aload_n 0, 1) := by decide +kernel
theorem dX8_digest_165 : decode cX8_digest 165 = .ok (.iload_n 3, 1) := by decide +kernel
theorem dX8_digest_166 : decode cX8_digest 166 = .ok (.iload 4, 2) := by decide +kernel
theorem dX8_digest_168 : decode cX8_digest 168 = .ok (.invokevirtual 303, 3) := by decide +kernel
theorem dX8_digest_171 : decode cX8_digest 171 = .ok (.i2l, 1) := by decide +kernel
theorem dX8_digest_172 : decode cX8_digest 172 = .ok (.ladd, 1) := by decide +kernel
theorem dX8_digest_173 : decode cX8_digest 173 = .ok (.lstore_n 1, 1) := by decide +kernel
end
section
theorem dX8_digest_174 : decode cX8_digest 174 = .ok (.iinc 4 1, 3) := by decide +kernel
theorem dX8_digest_177 : decode cX8_digest 177 = .ok (.goto (-110), 3) := by decide +kernel
theorem dX8_digest_180 : decode cX8_digest 180 = .ok (.iinc 3 1, 3) := by decide +kernel
theorem dX8_digest_183 : decode cX8_digest 183 = .ok (.goto (-124), 3) := by decide +kernel
theorem dX8_digest_186 : decode cX8_digest 186 = .ok (.iconst 0, 1) := by decide +kernel
theorem dX8_digest_187 : decode cX8_digest 187 = .ok (.istore_n 3, 1) := by decide +kernel
theorem dX8_digest_188 : decode cX8_digest 188 = .ok (.iload_n 3, 1) := by decide +kernel
theorem dX8_digest_189 : decode cX8_digest 189 = .ok (.aload_n 0, 1) := by decide +kernel
theorem dX8_digest_190 : decode cX8_digest 190 = .ok (.getfield 24, 3) := by decide +kernel
theorem dX8_digest_193 : decode cX8_digest 193 = .ok (.getfield 182, 3) := by decide +kernel
theorem dX8_digest_196 : decode cX8_digest 196 = .ok (.if_icmp .ge 73, 3) := by decide +kernel
theorem dX8_digest_199 : decode cX8_digest 199 = .ok (.ldc2_w 289, 3) := by decide +kernel
theorem dX8_digest_202 : decode cX8_digest 202 = .ok (.lload_n 1, 1) := by decide +kernel
theorem dX8_digest_203 : decode cX8_digest 203 = .ok (.lmul, 1) := by decide +kernel
theorem dX8_digest_204 : decode cX8_digest 204 = .ok (.aload_n 0, 1) := by decide +kernel
theorem dX8_digest_205 : decode cX8_digest 205 = .ok (.bipush 9, 2) := by decide +kernel
theorem dX8_digest_207 : decode cX8_digest 207 = .ok (.iload_n 3, 1) := by decide +kernel
theorem dX8_digest_208 : decode cX8_digest 208 = .ok (.iconst 0, 1) := by decide +kernel
theorem dX8_digest_209 : decode cX8_digest 209 = .ok (.invokevirtual 306, 3) := by decide +kernel
theorem dX8_digest_212 : decode cX8_digest 212 = .ok (.i2l, 1) := by decide +kernel
theorem dX8_digest_213 : decode cX8_digest 213 = .ok (.ladd, 1) := by decide +kernel
theorem dX8_digest_214 : decode cX8_digest 214 = .ok (.lstore_n 1, 1) := by decide +kernel
theorem dX8_digest_215 : decode cX8_digest 215 = .ok (.ldc2_w 289, 3) := by decide +kernel
theorem dX8_digest_218 : decode cX8_digest 218 = .ok (.lload_n 1, 1) := by decide +kernel
theorem dX8_digest_219 : decode cX8_digest 219 = .ok (.lmul, 1) := by decide +kernel
theorem dX8_digest_220 : decode cX8_digest 220 = .ok (.aload_n 0, 1) := by decide +kernel
theorem dX8_digest_221 : decode cX8_digest 221 = .ok (.bipush 9, 2) := by decide +kernel
theorem dX8_digest_223 : decode cX8_digest 223 = .ok (.iload_n 3, 1) := by decide +kernel
theorem dX8_digest_224 : decode cX8_digest 224 = .ok (.iconst 1, 1) := by decide +kernel
theorem dX8_digest_225 : decode cX8_digest 225 = .ok (.invokevirtual 306, 3) := by decide +kernel
theorem dX8_digest_228 : decode cX8_digest 228 = .ok (.i2l, 1) := by decide +kernel
theorem dX8_digest_229 : decode cX8_digest 229 = .ok (.ladd, 1) := by decide +kernel
theorem dX8_digest_230 : decode cX8_digest 230 = .ok (.lstore_n 1, 1) := by decide +kernel
theorem dX8_digest_231 : decode cX8_digest 231 = .ok (.ldc2_w 289, 3) := by decide +kernel
theorem dX8_digest_234 : decode cX8_digest 234 = .ok (.lload_n 1, 1) := by decide +kernel
theorem dX8_digest_235 : decode cX8_digest 235 = .ok (.lmul, 1) := by decide +kernel
theorem dX8_digest_236 : decode cX8_digest 236 = .ok (.aload_n 0, 1) := by decide +kernel
theorem dX8_digest_237 : decode cX8_digest 237 = .ok (.bipush 19, 2) := by decide +kernel
theorem dX8_digest_239 : decode cX8_digest 239 = .ok (.iload_n 3, 1) := by decide +kernel
theorem dX8_digest_240 : decode cX8_digest 240 = .ok (.iconst 0, 1) := by decide +kernel
theorem dX8_digest_241 : decode cX8_digest 241 = .ok (.invokevirtual 306, 3) := by decide +kernel
theorem dX8_digest_244 : decode cX8_digest 244 = .ok (.i2l, 1) := by decide +kernel
theorem dX8_digest_245 : decode cX8_digest 245 = .ok (.ladd, 1) := by decide +kernel
theorem dX8_digest_246 : decode cX8_digest 246 = .ok (.lstore_n 1, 1) := by decide +kernel
theorem dX8_digest_247 : decode cX8_digest 247 = .ok (.ldc2_w 289, 3) := by decide +kernel
theorem dX8_digest_250 : decode cX8_digest 250 = .ok (.lload_n 1, 1) := by decide +kernel
theorem dX8_digest_251 : decode cX8_digest 251 = .ok (.lmul, 1) := by decide +kernel
theorem dX8_digest_252 : decode cX8_digest 252 = .ok (.aload_n 0, 1) := by decide +kernel
theorem dX8_digest_253 : decode cX8_digest 253 = .ok (.bipush 19, 2) := by decide +kernel
theorem dX8_digest_255 : decode cX8_digest 255 = .ok (.iload_n 3, 1) := by decide +kernel
theorem dX8_digest_256 : decode cX8_digest 256 = .ok (.iconst 1, 1) := by decide +kernel
theorem dX8_digest_257 : decode cX8_digest 257 = .ok (.invokevirtual 306, 3) := by decide +kernel
theorem dX8_digest_260 : decode cX8_digest 260 = .ok (.i2l, 1) := by decide +kernel
theorem dX8_digest_261 : decode cX8_digest 261 = .ok (.ladd, 1) := by decide +kernel
theorem dX8_digest_262 : decode cX8_digest 262 = .ok (.lstore_n 1, 1) := by decide +kernel
theorem dX8_digest_263 : decode cX8_digest 263 = .ok (.iinc 3 1, 3) := by decide +kernel
theorem dX8_digest_266 : decode cX8_digest 266 = .ok (.goto (-78), 3) := by decide +kernel
theorem dX8_digest_269 : decode cX8_digest 269 = .ok (.iconst 0, 1) := by decide +kernel
theorem dX8_digest_270 : decode cX8_digest 270 = .ok (.istore_n 3, 1) := by decide +kernel
theorem dX8_digest_271 : decode cX8_digest 271 = .ok (.iload_n 3, 1) := by decide +kernel
theorem dX8_digest_272 : decode cX8_digest 272 = .ok (.bipush 20, 2) := by decide +kernel
theorem dX8_digest_274 : decode cX8_digest 274 = .ok (.if_icmp .ge 22, 3) := by decide +kernel
theorem dX8_digest_277 : decode cX8_digest 277 = .ok (.ldc2_w 289, 3) := by decide +kernel
theorem dX8_digest_280 : decode cX8_digest 280 = .ok (.lload_n 1, 1) := by decide +kernel
theorem dX8_digest_281 : decode cX8_digest 281 = .ok (.lmul, 1) := by decide +kernel
theorem dX8_digest_282 : decode cX8_digest 282 = .ok (.aload_n 0, 1) := by decide +kernel
theorem dX8_digest_283 : decode cX8_digest 283 = .ok (.iload_n 3, 1) := by decide +kernel
theorem dX8_digest_284 : decode cX8_digest 284 = .ok (.invokevirtual 310, 3) := by decide +kernel
theorem dX8_digest_287 : decode cX8_digest 287 = .ok (.i2l, 1) := by decide +kernel
theorem dX8_digest_288 : decode cX8_digest 288 = .ok (.ladd, 1) := by decide +kernel
theorem dX8_digest_289 : decode cX8_digest 289 = .ok (.lstore_n 1, 1) := by decide +kernel
theorem dX8_digest_290 : decode cX8_digest 290 = .ok (.iinc 3 1, 3) := by decide +kernel
theorem dX8_digest_293 : decode cX8_digest 293 = .ok (.goto (-22), 3) := by decide +kernel
theorem dX8_digest_296 : decode cX8_digest 296 = .ok (.iconst 0, 1) := by decide +kernel
theorem dX8_digest_297 : decode cX8_digest 297 = .ok (.istore_n 3, 1) := by decide +kernel
theorem dX8_digest_298 : decode cX8_digest 298 = .ok (.iload_n 3, 1) := by decide +kernel
theorem dX8_digest_299 : decode cX8_digest 299 = .ok (.aload_n 0, 1) := by decide +kernel
theorem dX8_digest_300 : decode cX8_digest 300 = .ok (.getfield 31, 3) := by decide +kernel
theorem dX8_digest_303 : decode cX8_digest 303 = .ok (.getfield 204, 3) := by decide +kernel
theorem dX8_digest_306 : decode cX8_digest 306 = .ok (.if_icmp .ge 132, 3) := by decide +kernel
theorem dX8_digest_309 : decode cX8_digest 309 = .ok (.ldc2_w 289, 3) := by decide +kernel
theorem dX8_digest_312 : decode cX8_digest 312 = .ok (.lload_n 1, 1) := by decide +kernel
theorem dX8_digest_313 : decode cX8_digest 313 = .ok (.lmul, 1) := by decide +kernel
theorem dX8_digest_314 : decode cX8_digest 314 = .ok (.aload_n 0, 1) := by decide +kernel
theorem dX8_digest_315 : decode cX8_digest 315 = .ok (.iload_n 3, 1) := by decide +kernel
theorem dX8_digest_316 : decode cX8_digest 316 = .ok (.iconst 0, 1) := by decide +kernel
theorem dX8_digest_317 : decode cX8_digest 317 = .ok (.invokevirtual 313, 3) := by decide +kernel
theorem dX8_digest_320 : decode cX8_digest 320 = .ok (.i2l, 1) := by decide +kernel
theorem dX8_digest_321 : decode cX8_digest 321 = .ok (.ladd, 1) := by decide +kernel
theorem dX8_digest_322 : decode cX8_digest 322 = .ok (.lstore_n 1, 1) := by decide +kernel
theorem dX8_digest_323 : decode cX8_digest 323 = .ok (.ldc2_w 289, 3) := by decide +kernel
theorem dX8_digest_326 : decode cX8_digest 326 = .ok (.lload_n 1, 1) := by decide +kernel
theorem dX8_digest_327 : decode cX8_digest 327 = .ok (.lmul, 1) := by decide +kernel
theorem dX8_digest_328 : decode cX8_digest 328 = .ok (.aload_n 0, 1) := by decide +kernel
theorem dX8_digest_329 : decode cX8_digest 329 = .ok (.iload_n 3, 1) := by decide +kernel
theorem dX8_digest_330 : decode cX8_digest 330 = .ok (.iconst 1, 1) := by decide +kernel
theorem dX8_digest_331 : decode cX8_digest 331 = .ok (.invokevirtual 313, 3) := by decide +kernel
theorem dX8_digest_334 : decode cX8_digest 334 = .ok (.i2l, 1) := by decide +kernel
theorem dX8_digest_335 : decode cX8_digest 335 = .ok (.ladd, 1) := by decide +kernel
theorem dX8_digest_336 : decode cX8_digest 336 = .ok (.lstore_n 1, 1) := by decide +kernel
theorem dX8_digest_337 : decode cX8_digest 337 = .ok (.ldc2_w 289, 3) := by decide +kernel
theorem dX8_digest_340 : decode cX8_digest 340 = .ok (.lload_n 1, 1) := by decide +kernel
theorem dX8_digest_341 : decode cX8_digest 341 = .ok (.lmul, 1) := by decide +kernel
theorem dX8_digest_342 : decode cX8_digest 342 = .ok (.aload_n 0, 1) := by decide +kernel
theorem dX8_digest_343 : decode cX8_digest 343 = .ok (.iload_n 3, 1) := by decide +kernel
theorem dX8_digest_344 : decode cX8_digest 344 = .ok (.invokevirtual 316, 3) := by decide +kernel
theorem dX8_digest_347 : decode cX8_digest 347 = .ok (.i2l, 1) := by decide +kernel
theorem dX8_digest_348 : decode cX8_digest 348 = .ok (.ladd, 1) := by decide +kernel
theorem dX8_digest_349 : decode cX8_digest 349 = .ok (.lstore_n 1, 1) := by decide +kernel
theorem dX8_digest_350 : decode cX8_digest 350 = .ok (.ldc2_w 289, 3) := by decide +kernel
theorem dX8_digest_353 : decode cX8_digest 353 = .ok (.lload_n 1, 1) := by decide +kernel
theorem dX8_digest_354 : decode cX8_digest 354 = .ok (.lmul, 1) := by decide +kernel
theorem dX8_digest_355 : decode cX8_digest 355 = .ok (.aload_n 0, 1) := by decide +kernel
theorem dX8_digest_356 : decode cX8_digest 356 = .ok (.iload_n 3, 1) := by decide +kernel
theorem dX8_digest_357 : decode cX8_digest 357 = .ok (.invokevirtual 319, 3) := by decide +kernel
theorem dX8_digest_360 : decode cX8_digest 360 = .ok (.i2l, 1) := by decide +kernel
theorem dX8_digest_361 : decode cX8_digest 361 = .ok (.ladd, 1) := by decide +kernel
theorem dX8_digest_362 : decode cX8_digest 362 = .ok (.lstore_n 1, 1) := by decide +kernel
theorem dX8_digest_363 : decode cX8_digest 363 = .ok (.ldc2_w 289, 3) := by decide +kernel
theorem dX8_digest_366 : decode cX8_digest 366 = .ok (.lload_n 1, 1) := by decide +kernel
theorem dX8_digest_367 : decode cX8_digest 367 = .ok (.lmul, 1) := by decide +kernel
theorem dX8_digest_368 : decode cX8_digest 368 = .ok (.aload_n 0, 1) := by decide +kernel
theorem dX8_digest_369 : decode cX8_digest 369 = .ok (.iload_n 3, 1) := by decide +kernel
theorem dX8_digest_370 : decode cX8_digest 370 = .ok (.iconst 0, 1) := by decide +kernel
theorem dX8_digest_371 : decode cX8_digest 371 = .ok (.invokevirtual 322, 3) := by decide +kernel
theorem dX8_digest_374 : decode cX8_digest 374 = .ok (.i2l, 1) := by decide +kernel
theorem dX8_digest_375 : decode cX8_digest 375 = .ok (.ladd, 1) := by decide +kernel
theorem dX8_digest_376 : decode cX8_digest 376 = .ok (.lstore_n 1, 1) := by decide +kernel
theorem dX8_digest_377 : decode cX8_digest 377 = .ok (.ldc2_w 289, 3) := by decide +kernel
theorem dX8_digest_380 : decode cX8_digest 380 = .ok (.lload_n 1, 1) := by decide +kernel
theorem dX8_digest_381 : decode cX8_digest 381 = .ok (.lmul, 1) := by decide +kernel
theorem dX8_digest_382 : decode cX8_digest 382 = .ok (.aload_n 0, 1) := by decide +kernel
theorem dX8_digest_383 : decode cX8_digest 383 = .ok (.iload_n 3, 1) := by decide +kernel
theorem dX8_digest_384 : decode cX8_digest 384 = .ok (.iconst 1, 1) := by decide +kernel
theorem dX8_digest_385 : decode cX8_digest 385 = .ok (.invokevirtual 322, 3) := by decide +kernel
theorem dX8_digest_388 : decode cX8_digest 388 = .ok (.i2l, 1) := by decide +kernel
theorem dX8_digest_389 : decode cX8_digest 389 = .ok (.ladd, 1) := by decide +kernel
theorem dX8_digest_390 : decode cX8_digest 390 = .ok (.lstore_n 1, 1) := by decide +kernel
theorem dX8_digest_391 : decode cX8_digest 391 = .ok (.ldc2_w 289, 3) := by decide +kernel
theorem dX8_digest_394 : decode cX8_digest 394 = .ok (.lload_n 1, 1) := by decide +kernel
theorem dX8_digest_395 : decode cX8_digest 395 = .ok (.lmul, 1) := by decide +kernel
theorem dX8_digest_396 : decode cX8_digest 396 = .ok (.aload_n 0, 1) := by decide +kernel
theorem dX8_digest_397 : decode cX8_digest 397 = .ok (.iload_n 3, 1) := by decide +kernel
theorem dX8_digest_398 : decode cX8_digest 398 = .ok (.iconst 0, 1) := by decide +kernel
theorem dX8_digest_399 : decode cX8_digest 399 = .ok (.invokevirtual 325, 3) := by decide +kernel
theorem dX8_digest_402 : decode cX8_digest 402 = .ok (.i2l, 1) := by decide +kernel
theorem dX8_digest_403 : decode cX8_digest 403 = .ok (.ladd, 1) := by decide +kernel
theorem dX8_digest_404 : decode cX8_digest 404 = .ok (.lstore_n 1, 1) := by decide +kernel
theorem dX8_digest_405 : decode cX8_digest 405 = .ok (.ldc2_w 289, 3) := by decide +kernel
theorem dX8_digest_408 : decode cX8_digest 408 = .ok (.lload_n 1, 1) := by decide +kernel
theorem dX8_digest_409 : decode cX8_digest 409 = .ok (.lmul, 1) := by decide +kernel
theorem dX8_digest_410 : decode cX8_digest 410 = .ok (.aload_n 0, 1) := by decide +kernel
theorem dX8_digest_411 : decode cX8_digest 411 = .ok (.iload_n 3, 1) := by decide +kernel
theorem dX8_digest_412 : decode cX8_digest 412 = .ok (.iconst 1, 1) := by decide +kernel
theorem dX8_digest_413 : decode cX8_digest 413 = .ok (.invokevirtual 325, 3) := by decide +kernel
theorem dX8_digest_416 : decode cX8_digest 416 = .ok (.i2l, 1) := by decide +kernel
theorem dX8_digest_417 : decode cX8_digest 417 = .ok (.ladd, 1) := by decide +kernel
theorem dX8_digest_418 : decode cX8_digest 418 = .ok (.lstore_n 1, 1) := by decide +kernel
theorem dX8_digest_419 : decode cX8_digest 419 = .ok (.ldc2_w 289, 3) := by decide +kernel
theorem dX8_digest_422 : decode cX8_digest 422 = .ok (.lload_n 1, 1) := by decide +kernel
theorem dX8_digest_423 : decode cX8_digest 423 = .ok (.lmul, 1) := by decide +kernel
theorem dX8_digest_424 : decode cX8_digest 424 = .ok (.aload_n 0, 1) := by decide +kernel
theorem dX8_digest_425 : decode cX8_digest 425 = .ok (.iload_n 3, 1) := by decide +kernel
theorem dX8_digest_426 : decode cX8_digest 426 = .ok (.invokevirtual 328, 3) := by decide +kernel
theorem dX8_digest_429 : decode cX8_digest 429 = .ok (.i2l, 1) := by decide +kernel
theorem dX8_digest_430 : decode cX8_digest 430 = .ok (.ladd, 1) := by decide +kernel
theorem dX8_digest_431 : decode cX8_digest 431 = .ok (.lstore_n 1, 1) := by decide +kernel
theorem dX8_digest_432 : decode cX8_digest 432 = .ok (.iinc 3 1, 3) := by decide +kernel
theorem dX8_digest_435 : decode cX8_digest 435 = .ok (.goto (-137), 3) := by decide +kernel
theorem dX8_digest_438 : decode cX8_digest 438 = .ok (.ldc2_w 289, 3) := by decide +kernel
theorem dX8_digest_441 : decode cX8_digest 441 = .ok (.lload_n 1, 1) := by decide +kernel
theorem dX8_digest_442 : decode cX8_digest 442 = .ok (.lmul, 1) := by decide +kernel
theorem dX8_digest_443 : decode cX8_digest 443 = .ok (.aload_n 0, 1) := by decide +kernel
theorem dX8_digest_444 : decode cX8_digest 444 = .ok (.iconst 0, 1) := by decide +kernel
theorem dX8_digest_445 : decode cX8_digest 445 = .ok (.invokevirtual 331, 3) := by decide +kernel
theorem dX8_digest_448 : decode cX8_digest 448 = .ok (.i2l, 1) := by decide +kernel
theorem dX8_digest_449 : decode cX8_digest 449 = .ok (.ladd, 1) := by decide +kernel
theorem dX8_digest_450 : decode cX8_digest 450 = .ok (.lstore_n 1, 1) := by decide +kernel
theorem dX8_digest_451 : decode cX8_digest 451 = .ok (.ldc2_w 289, 3) := by decide +kernel
theorem dX8_digest_454 : decode cX8_digest 454 = .ok (.lload_n 1, 1) := by decide +kernel
theorem dX8_digest_455 : decode cX8_digest 455 = .ok (.lmul, 1) := by decide +kernel
theorem dX8_digest_456 : decode cX8_digest 456 = .ok (.aload_n 0, 1) := by decide +kernel
theorem dX8_digest_457 : decode cX8_digest 457 = .ok (.iconst 1, 1) := by decide +kernel
theorem dX8_digest_458 : decode cX8_digest 458 = .ok (.invokevirtual 331, 3) := by decide +kernel
theorem dX8_digest_461 : decode cX8_digest 461 = .ok (.i2l, 1) := by decide +kernel
theorem dX8_digest_462 : decode cX8_digest 462 = .ok (.ladd, 1) := by decide +kernel
theorem dX8_digest_463 : decode cX8_digest 463 = .ok (.lstore_n 1, 1) := by decide +kernel
theorem dX8_digest_464 : decode cX8_digest 464 = .ok (.ldc2_w 289, 3) := by decide +kernel
theorem dX8_digest_467 : decode cX8_digest 467 = .ok (.lload_n 1, 1) := by decide +kernel
theorem dX8_digest_468 : decode cX8_digest 468 = .ok (.lmul, 1) := by decide +kernel
theorem dX8_digest_469 : decode cX8_digest 469 = .ok (.aload_n 0, 1) := by decide +kernel
theorem dX8_digest_470 : decode cX8_digest 470 = .ok (.invokevirtual 334, 3) := by decide +kernel
theorem dX8_digest_473 : decode cX8_digest 473 = .ok (.i2l, 1) := by decide +kernel
theorem dX8_digest_474 : decode cX8_digest 474 = .ok (.ladd, 1) := by decide +kernel
theorem dX8_digest_475 : decode cX8_digest 475 = .ok (.lstore_n 1, 1) := by decide +kernel
theorem dX8_digest_476 : decode cX8_digest 476 = .ok (.ldc2_w 289, 3) := by decide +kernel
theorem dX8_digest_479 : decode cX8_digest 479 = .ok (.lload_n 1, 1) := by decide +kernel
theorem dX8_digest_480 : decode cX8_digest 480 = .ok (.lmul, 1) := by decide +kernel
theorem dX8_digest_481 : decode cX8_digest 481 = .ok (.aload_n 0, 1) := by decide +kernel
theorem dX8_digest_482 : decode cX8_digest 482 = .ok (.iconst 5, 1) := by decide +kernel
theorem dX8_digest_483 : decode cX8_digest 483 = .ok (.iconst 0, 1) := by decide +kernel
theorem dX8_digest_484 : decode cX8_digest 484 = .ok (.invokevirtual 337, 3) := by decide +kernel
theorem dX8_digest_487 : decode cX8_digest 487 = .ok (.i2l, 1) := by decide +kernel
theorem dX8_digest_488 : decode cX8_digest 488 = .ok (.ladd, 1) := by decide +kernel
theorem dX8_digest_489 : decode cX8_digest 489 = .ok (.lstore_n 1, 1) := by decide +kernel
theorem dX8_digest_490 : decode cX8_digest 490 = .ok (.ldc2_w 289, 3) := by decide +kernel
theorem dX8_digest_493 : decode cX8_digest 493 = .ok (.lload_n 1, 1) := by decide +kernel
theorem dX8_digest_494 : decode cX8_digest 494 = .ok (.lmul, 1) := by decide +kernel
theorem dX8_digest_495 : decode cX8_digest 495 = .ok (.aload_n 0, 1) := by decide +kernel
theorem dX8_digest_496 : decode cX8_digest 496 = .ok (.iconst 5, 1) := by decide +kernel
theorem dX8_digest_497 : decode cX8_digest 497 = .ok (.iconst 1, 1) := by decide +kernel
theorem dX8_digest_498 : decode cX8_digest 498 = .ok (.invokevirtual 337, 3) := by decide +kernel
theorem dX8_digest_501 : decode cX8_digest 501 = .ok (.i2l, 1) := by decide +kernel
theorem dX8_digest_502 : decode cX8_digest 502 = .ok (.ladd, 1) := by decide +kernel
theorem dX8_digest_503 : decode cX8_digest 503 = .ok (.lstore_n 1, 1) := by decide +kernel
theorem dX8_digest_504 : decode cX8_digest 504 = .ok (.ldc2_w 289, 3) := by decide +kernel
theorem dX8_digest_507 : decode cX8_digest 507 = .ok (.lload_n 1, 1) := by decide +kernel
theorem dX8_digest_508 : decode cX8_digest 508 = .ok (.lmul, 1) := by decide +kernel
theorem dX8_digest_509 : decode cX8_digest 509 = .ok (.aload_n 0, 1) := by decide +kernel
theorem dX8_digest_510 : decode cX8_digest 510 = .ok (.iconst 5, 1) := by decide +kernel
theorem dX8_digest_511 : decode cX8_digest 511 = .ok (.iconst 2, 1) := by decide +kernel
theorem dX8_digest_512 : decode cX8_digest 512 = .ok (.invokevirtual 337, 3) := by decide +kernel
theorem dX8_digest_515 : decode cX8_digest 515 = .ok (.i2l, 1) := by decide +kernel
theorem dX8_digest_516 : decode cX8_digest 516 = .ok (.ladd, 1) := by decide +kernel
theorem dX8_digest_517 : decode cX8_digest 517 = .ok (.lstore_n 1, 1) := by decide +kernel
theorem dX8_digest_518 : decode cX8_digest 518 = .ok (.ldc2_w 289, 3) := by decide +kernel
theorem dX8_digest_521 : decode cX8_digest 521 = .ok (.lload_n 1, 1) := by decide +kernel
theorem dX8_digest_522 : decode cX8_digest 522 = .ok (.lmul, 1) := by decide +kernel
theorem dX8_digest_523 : decode cX8_digest 523 = .ok (.aload_n 0, 1) := by decide +kernel
theorem dX8_digest_524 : decode cX8_digest 524 = .ok (.invokevirtual 340, 3) := by decide +kernel
theorem dX8_digest_527 : decode cX8_digest 527 = .ok (.i2l, 1) := by decide +kernel
theorem dX8_digest_528 : decode cX8_digest 528 = .ok (.ladd, 1) := by decide +kernel
theorem dX8_digest_529 : decode cX8_digest 529 = .ok (.lstore_n 1, 1) := by decide +kernel
theorem dX8_digest_530 : decode cX8_digest 530 = .ok (.ldc2_w 289, 3) := by decide +kernel
theorem dX8_digest_533 : decode cX8_digest 533 = .ok (.lload_n 1, 1) := by decide +kernel
theorem dX8_digest_534 : decode cX8_digest 534 = .ok (.lmul, 1) := by decide +kernel
theorem dX8_digest_535 : decode cX8_digest 535 = .ok (.aload_n 0, 1) := by decide +kernel
theorem dX8_digest_536 : decode cX8_digest 536 = .ok (.iconst 5, 1) := by decide +kernel
theorem dX8_digest_537 : decode cX8_digest 537 = .ok (.iconst 0, 1) := by decide +kernel
theorem dX8_digest_538 : decode cX8_digest 538 = .ok (.invokevirtual 343, 3) := by decide +kernel
theorem dX8_digest_541 : decode cX8_digest 541 = .ok (.ladd, 1) := by decide +kernel
theorem dX8_digest_542 : decode cX8_digest 542 = .ok (.lstore_n 1, 1) := by decide +kernel
theorem dX8_digest_543 : decode cX8_digest 543 = .ok (.ldc2_w 289, 3) := by decide +kernel
theorem dX8_digest_546 : decode cX8_digest 546 = .ok (.lload_n 1, 1) := by decide +kernel
theorem dX8_digest_547 : decode cX8_digest 547 = .ok (.lmul, 1) := by decide +kernel
theorem dX8_digest_548 : decode cX8_digest 548 = .ok (.aload_n 0, 1) := by decide +kernel
theorem dX8_digest_549 : decode cX8_digest 549 = .ok (.iconst 5, 1) := by decide +kernel
theorem dX8_digest_550 : decode cX8_digest 550 = .ok (.iconst 1, 1) := by decide +kernel
theorem dX8_digest_551 : decode cX8_digest 551 = .ok (.invokevirtual 343, 3) := by decide +kernel
theorem dX8_digest_554 : decode cX8_digest 554 = .ok (.ladd, 1) := by decide +kernel
theorem dX8_digest_555 : decode cX8_digest 555 = .ok (.lstore_n 1, 1) := by decide +kernel
theorem dX8_digest_556 : decode cX8_digest 556 = .ok (.ldc2_w 289, 3) := by decide +kernel
theorem dX8_digest_559 : decode cX8_digest 559 = .ok (.lload_n 1, 1) := by decide +kernel
theorem dX8_digest_560 : decode cX8_digest 560 = .ok (.lmul, 1) := by decide +kernel
theorem dX8_digest_561 : decode cX8_digest 561 = .ok (.aload_n 0, 1) := by decide +kernel
theorem dX8_digest_562 : decode cX8_digest 562 = .ok (.bipush 7, 2) := by decide +kernel
theorem dX8_digest_564 : decode cX8_digest 564 = .ok (.iconst 5, 1) := by decide +kernel
theorem dX8_digest_565 : decode cX8_digest 565 = .ok (.iconst 0, 1) := by decide +kernel
theorem dX8_digest_566 : decode cX8_digest 566 = .ok (.invokevirtual 346, 3) := by decide +kernel
theorem dX8_digest_569 : decode cX8_digest 569 = .ok (.i2l, 1) := by decide +kernel
theorem dX8_digest_570 : decode cX8_digest 570 = .ok (.ladd, 1) := by decide +kernel
theorem dX8_digest_571 : decode cX8_digest 571 = .ok (.lstore_n 1, 1) := by decide +kernel
theorem dX8_digest_572 : decode cX8_digest 572 = .ok (.ldc2_w 289, 3) := by decide +kernel
theorem dX8_digest_575 : decode cX8_digest 575 = .ok (.lload_n 1, 1) := by decide +kernel
theorem dX8_digest_576 : decode cX8_digest 576 = .ok (.lmul, 1) := by decide +kernel
theorem dX8_digest_577 : decode cX8_digest 577 = .ok (.aload_n 0, 1) := by decide +kernel
theorem dX8_digest_578 : decode cX8_digest 578 = .ok (.bipush 7, 2) := by decide +kernel
theorem dX8_digest_580 : decode cX8_digest 580 = .ok (.iconst 5, 1) := by decide +kernel
theorem dX8_digest_581 : decode cX8_digest 581 = .ok (.iconst 1, 1) := by decide +kernel
theorem dX8_digest_582 : decode cX8_digest 582 = .ok (.invokevirtual 346, 3) := by decide +kernel
theorem dX8_digest_585 : decode cX8_digest 585 = .ok (.i2l, 1) := by decide +kernel
theorem dX8_digest_586 : decode cX8_digest 586 = .ok (.ladd, 1) := by decide +kernel
theorem dX8_digest_587 : decode cX8_digest 587 = .ok (.lstore_n 1, 1) := by decide +kernel
theorem dX8_digest_588 : decode cX8_digest 588 = .ok (.lload_n 1, 1) := by decide +kernel
theorem dX8_digest_589 : decode cX8_digest 589 = .ok (.lreturn, 1) := by decide +kernel
theorem dX8_textOf_0 : decode cX8_textOf 0 = .ok (.iload_n 1, 1) := by decide +kernel
theorem dX8_textOf_1 : decode cX8_textOf 1 = .ok (.ifCond .ne 10, 3) := by decide +kernel
theorem dX8_textOf_4 : decode cX8_textOf 4 = .ok (.aload_n 0, 1) := by decide +kernel
theorem dX8_textOf_5 : decode cX8_textOf 5 = .ok (.getfield 14, 3) := by decide +kernel
theorem dX8_textOf_8 : decode cX8_textOf 8 = .ok (.goto 7, 3) := by decide +kernel
theorem dX8_textOf_11 : decode cX8_textOf 11 = .ok (.aload_n 0, 1) := by decide +kernel
theorem dX8_textOf_12 : decode cX8_textOf 12 = .ok (.getfield 18, 3) := by decide +kernel
theorem dX8_textOf_15 : decode cX8_textOf 15 = .ok (.areturn, 1) := by decide +kernel
theorem dX8_retell_0 : decode cX8_retell 0 = .ok (.iload_n 1, 1) := by decide +kernel
theorem dX8_retell_1 : decode cX8_retell 1 = .ok (.ifCond .ne 17, 3) := by decide +kernel
theorem dX8_retell_4 : decode cX8_retell 4 = .ok (.aload_n 0, 1) := by decide +kernel
theorem dX8_retell_5 : decode cX8_retell 5 = .ok (.getfield 24, 3) := by decide +kernel
theorem dX8_retell_8 : decode cX8_retell 8 = .ok (.aload_n 0, 1) := by decide +kernel
theorem dX8_retell_9 : decode cX8_retell 9 = .ok (.getfield 14, 3) := by decide +kernel
theorem dX8_retell_12 : decode cX8_retell 12 = .ok (.invokevirtual 349, 3) := by decide +kernel
theorem dX8_retell_15 : decode cX8_retell 15 = .ok (.goto 14, 3) := by decide +kernel
theorem dX8_retell_18 : decode cX8_retell 18 = .ok (.aload_n 0, 1) := by decide +kernel
theorem dX8_retell_19 : decode cX8_retell 19 = .ok (.getfield 31, 3) := by decide +kernel
theorem dX8_retell_22 : decode cX8_retell 22 = .ok (.aload_n 0, 1) := by decide +kernel
theorem dX8_retell_23 : decode cX8_retell 23 = .ok (.getfield 18, 3) := by decide +kernel
theorem dX8_retell_26 : decode cX8_retell 26 = .ok (.invokevirtual 353, 3) := by decide +kernel
theorem dX8_retell_29 : decode cX8_retell 29 = .ok (.aload_n 0, 1) := by decide +kernel
theorem dX8_retell_30 : decode cX8_retell 30 = .ok (.iconst 1, 1) := by decide +kernel
theorem dX8_retell_31 : decode cX8_retell 31 = .ok (.putfield 81, 3) := by decide +kernel
theorem dX8_retell_34 : decode cX8_retell 34 = .ok (.return_, 1) := by decide +kernel
theorem dX8_asTold_0 : decode cX8_asTold 0 = .ok (.aload_n 0, 1) := by decide +kernel
theorem dX8_asTold_1 : decode cX8_asTold 1 = .ok (.getfield 81, 3) := by decide +kernel
theorem dX8_asTold_4 : decode cX8_asTold 4 = .ok (.ifCond .eq 20, 3) := by decide +kernel
theorem dX8_asTold_7 : decode cX8_asTold 7 = .ok (.aload_n 0, 1) := by decide +kernel
theorem dX8_asTold_8 : decode cX8_asTold 8 = .ok (.getfield 70, 3) := by decide +kernel
theorem dX8_asTold_11 : decode cX8_asTold 11 = .ok (.aload_n 0, 1) := by decide +kernel
theorem dX8_asTold_12 : decode cX8_asTold 12 = .ok (.getfield 38, 3) := by decide +kernel
theorem dX8_asTold_15 : decode cX8_asTold 15 = .ok (.iconst 0, 1) := by decide +kernel
theorem dX8_asTold_16 : decode cX8_asTold 16 = .ok (.invokevirtual 205, 3) := by decide +kernel
theorem dX8_asTold_19 : decode cX8_asTold 19 = .ok (.aload_n 0, 1) := by decide +kernel
theorem dX8_asTold_20 : decode cX8_asTold 20 = .ok (.iconst 0, 1) := by decide +kernel
theorem dX8_asTold_21 : decode cX8_asTold 21 = .ok (.putfield 81, 3) := by decide +kernel
theorem dX8_asTold_24 : decode cX8_asTold 24 = .ok (.aload_n 0, 1) := by decide +kernel
theorem dX8_asTold_25 : decode cX8_asTold 25 = .ok (.getfield 70, 3) := by decide +kernel
theorem dX8_asTold_28 : decode cX8_asTold 28 = .ok (.areturn, 1) := by decide +kernel
theorem dX8_found_0 : decode cX8_found 0 = .ok (.aload_n 0, 1) := by decide +kernel
theorem dX8_found_1 : decode cX8_found 1 = .ok (.iload_n 1, 1) := by decide +kernel
theorem dX8_found_2 : decode cX8_found 2 = .ok (.putfield 85, 3) := by decide +kernel
theorem dX8_found_5 : decode cX8_found 5 = .ok (.bipush (-10), 2) := by decide +kernel
theorem dX8_found_7 : decode cX8_found 7 = .ok (.iload_n 1, 1) := by decide +kernel
theorem dX8_found_8 : decode cX8_found 8 = .ok (.isub, 1) := by decide +kernel
theorem dX8_found_9 : decode cX8_found 9 = .ok (.ireturn, 1) := by decide +kernel
theorem dX8_mostAlike_0 : decode cX8_mostAlike 0 = .ok (.iconst 0, 1) := by decide +kernel
theorem dX8_mostAlike_1 : decode cX8_mostAlike 1 = .ok (.istore_n 3, 1) := by decide +kernel
theorem dX8_mostAlike_2 : decode cX8_mostAlike 2 = .ok (.iconst 0, 1) := by decide +kernel
theorem dX8_mostAlike_3 : decode cX8_mostAlike 3 = .ok (.istore 4, 2) := by decide +kernel
theorem dX8_mostAlike_5 : decode cX8_mostAlike 5 = .ok (.iload 4, 2) := by decide +kernel
theorem dX8_mostAlike_7 : decode cX8_mostAlike 7 = .ok (.iload_n 1, 1) := by decide +kernel
theorem dX8_mostAlike_8 : decode cX8_mostAlike 8 = .ok (.if_icmp .ge 64, 3) := by decide +kernel
theorem dX8_mostAlike_11 : decode cX8_mostAlike 11 = .ok (.iconst 0, 1) := by decide +kernel
theorem dX8_mostAlike_12 : decode cX8_mostAlike 12 = .ok (.istore 5, 2) := by decide +kernel
theorem dX8_mostAlike_14 : decode cX8_mostAlike 14 = .ok (.iconst 0, 1) := by decide +kernel
theorem dX8_mostAlike_15 : decode cX8_mostAlike 15 = .ok (.istore 6, 2) := by decide +kernel
theorem dX8_mostAlike_17 : decode cX8_mostAlike 17 = .ok (.iload 6, 2) := by decide +kernel
theorem dX8_mostAlike_19 : decode cX8_mostAlike 19 = .ok (.iload_n 1, 1) := by decide +kernel
theorem dX8_mostAlike_20 : decode cX8_mostAlike 20 = .ok (.if_icmp .ge 39, 3) := by decide +kernel
theorem dX8_mostAlike_23 : decode cX8_mostAlike 23 = .ok (.aload_n 0, 1) := by decide +kernel
theorem dX8_mostAlike_24 : decode cX8_mostAlike 24 = .ok (.getfield 77, 3) := by decide +kernel
theorem dX8_mostAlike_27 : decode cX8_mostAlike 27 = .ok (.iload 4, 2) := by decide +kernel
theorem dX8_mostAlike_29 : decode cX8_mostAlike 29 = .ok (.bipush 20, 2) := by decide +kernel
theorem dX8_mostAlike_31 : decode cX8_mostAlike 31 = .ok (.imul, 1) := by decide +kernel
theorem dX8_mostAlike_32 : decode cX8_mostAlike 32 = .ok (.iload_n 2, 1) := by decide +kernel
theorem dX8_mostAlike_33 : decode cX8_mostAlike 33 = .ok (.iadd, 1) := by decide +kernel
theorem dX8_mostAlike_34 : decode cX8_mostAlike 34 = .ok (.iaload, 1) := by decide +kernel
theorem dX8_mostAlike_35 : decode cX8_mostAlike 35 = .ok (.aload_n 0, 1) := by decide +kernel
theorem dX8_mostAlike_36 : decode cX8_mostAlike 36 = .ok (.getfield 77, 3) := by decide +kernel
theorem dX8_mostAlike_39 : decode cX8_mostAlike 39 = .ok (.iload 6, 2) := by decide +kernel
theorem dX8_mostAlike_41 : decode cX8_mostAlike 41 = .ok (.bipush 20, 2) := by decide +kernel
theorem dX8_mostAlike_43 : decode cX8_mostAlike 43 = .ok (.imul, 1) := by decide +kernel
theorem dX8_mostAlike_44 : decode cX8_mostAlike 44 = .ok (.iload_n 2, 1) := by decide +kernel
theorem dX8_mostAlike_45 : decode cX8_mostAlike 45 = .ok (.iadd, 1) := by decide +kernel
theorem dX8_mostAlike_46 : decode cX8_mostAlike 46 = .ok (.iaload, 1) := by decide +kernel
theorem dX8_mostAlike_47 : decode cX8_mostAlike 47 = .ok (.if_icmp .ne 6, 3) := by decide +kernel
theorem dX8_mostAlike_50 : decode cX8_mostAlike 50 = .ok (.iinc 5 1, 3) := by decide +kernel
theorem dX8_mostAlike_53 : decode cX8_mostAlike 53 = .ok (.iinc 6 1, 3) := by decide +kernel
theorem dX8_mostAlike_56 : decode cX8_mostAlike 56 = .ok (.goto (-39), 3) := by decide +kernel
theorem dX8_mostAlike_59 : decode cX8_mostAlike 59 = .ok (.iload_n 3, 1) := by decide +kernel
theorem dX8_mostAlike_60 : decode cX8_mostAlike 60 = .ok (.iload 5, 2) := by decide +kernel
theorem dX8_mostAlike_62 : decode cX8_mostAlike 62 = .ok (.invokestatic 354, 3) := by decide +kernel
theorem dX8_mostAlike_65 : decode cX8_mostAlike 65 = .ok (.istore_n 3, 1) := by decide +kernel
theorem dX8_mostAlike_66 : decode cX8_mostAlike 66 = .ok (.iinc 4 1, 3) := by decide +kernel
theorem dX8_mostAlike_69 : decode cX8_mostAlike 69 = .ok (.goto (-64), 3) := by decide +kernel
theorem dX8_mostAlike_72 : decode cX8_mostAlike 72 = .ok (.iload_n 3, 1) := by decide +kernel
theorem dX8_mostAlike_73 : decode cX8_mostAlike 73 = .ok (.ireturn, 1) := by decide +kernel
theorem dX8_waysOf_0 : decode cX8_waysOf 0 = .ok (.lconst 1, 1) := by decide +kernel
theorem dX8_waysOf_1 : decode cX8_waysOf 1 = .ok (.lstore_n 3, 1) := by decide +kernel
theorem dX8_waysOf_2 : decode cX8_waysOf 2 = .ok (.iconst 0, 1) := by decide +kernel
theorem dX8_waysOf_3 : decode cX8_waysOf 3 = .ok (.istore 5, 2) := by decide +kernel
theorem dX8_waysOf_5 : decode cX8_waysOf 5 = .ok (.iload 5, 2) := by decide +kernel
theorem dX8_waysOf_7 : decode cX8_waysOf 7 = .ok (.aload_n 0, 1) := by decide +kernel
theorem dX8_waysOf_8 : decode cX8_waysOf 8 = .ok (.getfield 38, 3) := by decide +kernel
theorem dX8_waysOf_11 : decode cX8_waysOf 11 = .ok (.getfield 142, 3) := by decide +kernel
theorem dX8_waysOf_14 : decode cX8_waysOf 14 = .ok (.if_icmp .ge 31, 3) := by decide +kernel
theorem dX8_waysOf_17 : decode cX8_waysOf 17 = .ok (.lload_n 3, 1) := by decide +kernel
theorem dX8_waysOf_18 : decode cX8_waysOf 18 = .ok (.iload_n 1, 1) := by decide +kernel
theorem dX8_waysOf_19 : decode cX8_waysOf 19 = .ok (.iload 5, 2) := by decide +kernel
theorem dX8_waysOf_21 : decode cX8_waysOf 21 = .ok (.iushr, 1) := by decide +kernel
theorem dX8_waysOf_22 : decode cX8_waysOf 22 = .ok (.iconst 1, 1) := by decide +kernel
theorem dX8_waysOf_23 : decode cX8_waysOf 23 = .ok (.iand, 1) := by decide +kernel
theorem dX8_waysOf_24 : decode cX8_waysOf 24 = .ok (.ifCond .ne 8, 3) := by decide +kernel
theorem dX8_waysOf_27 : decode cX8_waysOf 27 = .ok (.iload_n 2, 1) := by decide +kernel
theorem dX8_waysOf_28 : decode cX8_waysOf 28 = .ok (.i2l, 1) := by decide +kernel
theorem dX8_waysOf_29 : decode cX8_waysOf 29 = .ok (.goto 8, 3) := by decide +kernel
theorem dX8_waysOf_32 : decode cX8_waysOf 32 = .ok (.bipush 16, 2) := by decide +kernel
theorem dX8_waysOf_34 : decode cX8_waysOf 34 = .ok (.iload_n 2, 1) := by decide +kernel
theorem dX8_waysOf_35 : decode cX8_waysOf 35 = .ok (.isub, 1) := by decide +kernel
theorem dX8_waysOf_36 : decode cX8_waysOf 36 = .ok (.i2l, 1) := by decide +kernel
theorem dX8_waysOf_37 : decode cX8_waysOf 37 = .ok (.lmul, 1) := by decide +kernel
theorem dX8_waysOf_38 : decode cX8_waysOf 38 = .ok (.lstore_n 3, 1) := by decide +kernel
theorem dX8_waysOf_39 : decode cX8_waysOf 39 = .ok (.iinc 5 1, 3) := by decide +kernel
theorem dX8_waysOf_42 : decode cX8_waysOf 42 = .ok (.goto (-37), 3) := by decide +kernel
theorem dX8_waysOf_45 : decode cX8_waysOf 45 = .ok (.lload_n 3, 1) := by decide +kernel
theorem dX8_waysOf_46 : decode cX8_waysOf 46 = .ok (.lreturn, 1) := by decide +kernel
theorem dX8_nextSeed_0 : decode cX8_nextSeed 0 = .ok (.ldc_w 357, 3) := by decide +kernel
theorem dX8_nextSeed_3 : decode cX8_nextSeed 3 = .ok (.iload_n 0, 1) := by decide +kernel
theorem dX8_nextSeed_4 : decode cX8_nextSeed 4 = .ok (.imul, 1) := by decide +kernel
theorem dX8_nextSeed_5 : decode cX8_nextSeed 5 = .ok (.sipush 12345, 3) := by decide +kernel
theorem dX8_nextSeed_8 : decode cX8_nextSeed 8 = .ok (.iadd, 1) := by decide +kernel
theorem dX8_nextSeed_9 : decode cX8_nextSeed 9 = .ok (.ireturn, 1) := by decide +kernel
theorem dX8_within_0 : decode cX8_within 0 = .ok (.iload_n 0, 1) := by decide +kernel
theorem dX8_within_1 : decode cX8_within 1 = .ok (.iload_n 1, 1) := by decide +kernel
theorem dX8_within_2 : decode cX8_within 2 = .ok (.if_icmp .lt 12, 3) := by decide +kernel
theorem dX8_within_5 : decode cX8_within 5 = .ok (.iload_n 0, 1) := by decide +kernel
theorem dX8_within_6 : decode cX8_within 6 = .ok (.iload_n 2, 1) := by decide +kernel
theorem dX8_within_7 : decode cX8_within 7 = .ok (.if_icmp .gt 7, 3) := by decide +kernel
theorem dX8_within_10 : decode cX8_within 10 = .ok (.iconst 1, 1) := by decide +kernel
theorem dX8_within_11 : decode cX8_within 11 = .ok (.goto 4, 3) := by decide +kernel
theorem dX8_within_14 : decode cX8_within 14 = .ok (.iconst 0, 1) := by decide +kernel
theorem dX8_within_15 : decode cX8_within 15 = .ok (.ireturn, 1) := by decide +kernel
theorem dX8_isEither_0 : decode cX8_isEither 0 = .ok (.iload_n 0, 1) := by decide +kernel
theorem dX8_isEither_1 : decode cX8_isEither 1 = .ok (.ifCond .eq 8, 3) := by decide +kernel
theorem dX8_isEither_4 : decode cX8_isEither 4 = .ok (.iload_n 0, 1) := by decide +kernel
theorem dX8_isEither_5 : decode cX8_isEither 5 = .ok (.iconst 1, 1) := by decide +kernel
theorem dX8_isEither_6 : decode cX8_isEither 6 = .ok (.if_icmp .ne 7, 3) := by decide +kernel
theorem dX8_isEither_9 : decode cX8_isEither 9 = .ok (.iconst 1, 1) := by decide +kernel
theorem dX8_isEither_10 : decode cX8_isEither 10 = .ok (.goto 4, 3) := by decide +kernel
theorem dX8_isEither_13 : decode cX8_isEither 13 = .ok (.iconst 0, 1) := by decide +kernel
theorem dX8_isEither_14 : decode cX8_isEither 14 = .ok (.ireturn, 1) := by decide +kernel
theorem dX8_isYear_0 : decode cX8_isYear 0 = .ok (.iload_n 0, 1) := by decide +kernel
theorem dX8_isYear_1 : decode cX8_isYear 1 = .ok (.iconst 0, 1) := by decide +kernel
theorem dX8_isYear_2 : decode cX8_isYear 2 = .ok (.bipush 19, 2) := by decide +kernel
theorem dX8_isYear_4 : decode cX8_isYear 4 = .ok (.invokestatic 94, 3) := by decide +kernel
theorem dX8_isYear_7 : decode cX8_isYear 7 = .ok (.ireturn, 1) := by decide +kernel
theorem dX8_isPlace_0 : decode cX8_isPlace 0 = .ok (.iload_n 0, 1) := by decide +kernel
theorem dX8_isPlace_1 : decode cX8_isPlace 1 = .ok (.iconst 0, 1) := by decide +kernel
theorem dX8_isPlace_2 : decode cX8_isPlace 2 = .ok (.iconst 4, 1) := by decide +kernel
theorem dX8_isPlace_3 : decode cX8_isPlace 3 = .ok (.invokestatic 94, 3) := by decide +kernel
theorem dX8_isPlace_6 : decode cX8_isPlace 6 = .ok (.ifCond .eq 17, 3) := by decide +kernel
theorem dX8_isPlace_9 : decode cX8_isPlace 9 = .ok (.iload_n 1, 1) := by decide +kernel
theorem dX8_isPlace_10 : decode cX8_isPlace 10 = .ok (.iconst 0, 1) := by decide +kernel
theorem dX8_isPlace_11 : decode cX8_isPlace 11 = .ok (.bipush 7, 2) := by decide +kernel
theorem dX8_isPlace_13 : decode cX8_isPlace 13 = .ok (.invokestatic 94, 3) := by decide +kernel
theorem dX8_isPlace_16 : decode cX8_isPlace 16 = .ok (.ifCond .eq 7, 3) := by decide +kernel
theorem dX8_isPlace_19 : decode cX8_isPlace 19 = .ok (.iconst 1, 1) := by decide +kernel
theorem dX8_isPlace_20 : decode cX8_isPlace 20 = .ok (.goto 4, 3) := by decide +kernel
theorem dX8_isPlace_23 : decode cX8_isPlace 23 = .ok (.iconst 0, 1) := by decide +kernel
theorem dX8_isPlace_24 : decode cX8_isPlace 24 = .ok (.ireturn, 1) := by decide +kernel
theorem dX8_isSheet_0 : decode cX8_isSheet 0 = .ok (.iload_n 0, 1) := by decide +kernel
theorem dX8_isSheet_1 : decode cX8_isSheet 1 = .ok (.iconst 0, 1) := by decide +kernel
theorem dX8_isSheet_2 : decode cX8_isSheet 2 = .ok (.iconst 3, 1) := by decide +kernel
theorem dX8_isSheet_3 : decode cX8_isSheet 3 = .ok (.invokestatic 94, 3) := by decide +kernel
theorem dX8_isSheet_6 : decode cX8_isSheet 6 = .ok (.ireturn, 1) := by decide +kernel
theorem dX8_isForm_0 : decode cX8_isForm 0 = .ok (.iload_n 0, 1) := by decide +kernel
theorem dX8_isForm_1 : decode cX8_isForm 1 = .ok (.iconst 0, 1) := by decide +kernel
theorem dX8_isForm_2 : decode cX8_isForm 2 = .ok (.iconst 2, 1) := by decide +kernel
theorem dX8_isForm_3 : decode cX8_isForm 3 = .ok (.invokestatic 94, 3) := by decide +kernel
theorem dX8_isForm_6 : decode cX8_isForm 6 = .ok (.ireturn, 1) := by decide +kernel
theorem dX8_isAt_0 : decode cX8_isAt 0 = .ok (.lload_n 0, 1) := by decide +kernel
theorem dX8_isAt_1 : decode cX8_isAt 1 = .ok (.iload_n 2, 1) := by decide +kernel
theorem dX8_isAt_2 : decode cX8_isAt 2 = .ok (.lushr, 1) := by decide +kernel
theorem dX8_isAt_3 : decode cX8_isAt 3 = .ok (.lconst 1, 1) := by decide +kernel
theorem dX8_isAt_4 : decode cX8_isAt 4 = .ok (.land, 1) := by decide +kernel
theorem dX8_isAt_5 : decode cX8_isAt 5 = .ok (.lconst 0, 1) := by decide +kernel
theorem dX8_isAt_6 : decode cX8_isAt 6 = .ok (.lcmp, 1) := by decide +kernel
theorem dX8_isAt_7 : decode cX8_isAt 7 = .ok (.ifCond .eq 7, 3) := by decide +kernel
theorem dX8_isAt_10 : decode cX8_isAt 10 = .ok (.iconst 1, 1) := by decide +kernel
theorem dX8_isAt_11 : decode cX8_isAt 11 = .ok (.goto 4, 3) := by decide +kernel
theorem dX8_isAt_14 : decode cX8_isAt 14 = .ok (.iconst 0, 1) := by decide +kernel
theorem dX8_isAt_15 : decode cX8_isAt 15 = .ok (.ireturn, 1) := by decide +kernel
theorem dX8_setterAt_0 : decode cX8_setterAt 0 = .ok (.iconst 0, 1) := by decide +kernel
theorem dX8_setterAt_1 : decode cX8_setterAt 1 = .ok (.istore_n 3, 1) := by decide +kernel
theorem dX8_setterAt_2 : decode cX8_setterAt 2 = .ok (.iload_n 3, 1) := by decide +kernel
theorem dX8_setterAt_3 : decode cX8_setterAt 3 = .ok (.bipush 8, 2) := by decide +kernel
theorem dX8_setterAt_5 : decode cX8_setterAt 5 = .ok (.if_icmp .ge 23, 3) := by decide +kernel
theorem dX8_setterAt_8 : decode cX8_setterAt 8 = .ok (.aload_n 0, 1) := by decide +kernel
theorem dX8_setterAt_9 : decode cX8_setterAt 9 = .ok (.iload_n 1, 1) := by decide +kernel
theorem dX8_setterAt_10 : decode cX8_setterAt 10 = .ok (.iload_n 3, 1) := by decide +kernel
theorem dX8_setterAt_11 : decode cX8_setterAt 11 = .ok (.iadd, 1) := by decide +kernel
theorem dX8_setterAt_12 : decode cX8_setterAt 12 = .ok (.laload, 1) := by decide +kernel
theorem dX8_setterAt_13 : decode cX8_setterAt 13 = .ok (.iload_n 2, 1) := by decide +kernel
theorem dX8_setterAt_14 : decode cX8_setterAt 14 = .ok (.invokestatic 358, 3) := by decide +kernel
theorem dX8_setterAt_17 : decode cX8_setterAt 17 = .ok (.ifCond .eq 5, 3) := by decide +kernel
theorem dX8_setterAt_20 : decode cX8_setterAt 20 = .ok (.iload_n 3, 1) := by decide +kernel
theorem dX8_setterAt_21 : decode cX8_setterAt 21 = .ok (.ireturn, 1) := by decide +kernel
theorem dX8_setterAt_22 : decode cX8_setterAt 22 = .ok (.iinc 3 1, 3) := by decide +kernel
theorem dX8_setterAt_25 : decode cX8_setterAt 25 = .ok (.goto (-23), 3) := by decide +kernel
theorem dX8_setterAt_28 : decode cX8_setterAt 28 = .ok (.iconst (-1), 1) := by decide +kernel
theorem dX8_setterAt_29 : decode cX8_setterAt 29 = .ok (.ireturn, 1) := by decide +kernel
theorem dX8_union_0 : decode cX8_union 0 = .ok (.lconst 0, 1) := by decide +kernel
theorem dX8_union_1 : decode cX8_union 1 = .ok (.lstore_n 1, 1) := by decide +kernel
theorem dX8_union_2 : decode cX8_union 2 = .ok (.iconst 0, 1) := by decide +kernel
theorem dX8_union_3 : decode cX8_union 3 = .ok (.istore_n 3, 1) := by decide +kernel
theorem dX8_union_4 : decode cX8_union 4 = .ok (.iload_n 3, 1) := by decide +kernel
theorem dX8_union_5 : decode cX8_union 5 = .ok (.bipush 8, 2) := by decide +kernel
theorem dX8_union_7 : decode cX8_union 7 = .ok (.if_icmp .ge 15, 3) := by decide +kernel
theorem dX8_union_10 : decode cX8_union 10 = .ok (.lload_n 1, 1) := by decide +kernel
theorem dX8_union_11 : decode cX8_union 11 = .ok (.aload_n 0, 1) := by decide +kernel
theorem dX8_union_12 : decode cX8_union 12 = .ok (.iload_n 3, 1) := by decide +kernel
theorem dX8_union_13 : decode cX8_union 13 = .ok (.laload, 1) := by decide +kernel
theorem dX8_union_14 : decode cX8_union 14 = .ok (.lor, 1) := by decide +kernel
theorem dX8_union_15 : decode cX8_union 15 = .ok (.lstore_n 1, 1) := by decide +kernel
theorem dX8_union_16 : decode cX8_union 16 = .ok (.iinc 3 1, 3) := by decide +kernel
theorem dX8_union_19 : decode cX8_union 19 = .ok (.goto (-15), 3) := by decide +kernel
theorem dX8_union_22 : decode cX8_union 22 = .ok (.lload_n 1, 1) := by decide +kernel
theorem dX8_union_23 : decode cX8_union 23 = .ok (.lreturn, 1) := by decide +kernel
theorem dX8_borneOf_0 : decode cX8_borneOf 0 = .ok (.lload_n 0, 1) := by decide +kernel
theorem dX8_borneOf_1 : decode cX8_borneOf 1 = .ok (.ldc2_w 362, 3) := by decide +kernel
theorem dX8_borneOf_4 : decode cX8_borneOf 4 = .ok (.land, 1) := by decide +kernel
theorem dX8_borneOf_5 : decode cX8_borneOf 5 = .ok (.lstore_n 2, 1) := by decide +kernel
theorem dX8_borneOf_6 : decode cX8_borneOf 6 = .ok (.lload_n 2, 1) := by decide +kernel
theorem dX8_borneOf_7 : decode cX8_borneOf 7 = .ok (.lstore 4, 2) := by decide +kernel
theorem dX8_borneOf_9 : decode cX8_borneOf 9 = .ok (.iconst 1, 1) := by decide +kernel
theorem dX8_borneOf_10 : decode cX8_borneOf 10 = .ok (.istore 6, 2) := by decide +kernel
theorem dX8_borneOf_12 : decode cX8_borneOf 12 = .ok (.iload 6, 2) := by decide +kernel
theorem dX8_borneOf_14 : decode cX8_borneOf 14 = .ok (.iconst 5, 1) := by decide +kernel
theorem dX8_borneOf_15 : decode cX8_borneOf 15 = .ok (.if_icmp .ge 47, 3) := by decide +kernel
theorem dX8_borneOf_18 : decode cX8_borneOf 18 = .ok (.lload_n 2, 1) := by decide +kernel
theorem dX8_borneOf_19 : decode cX8_borneOf 19 = .ok (.lload_n 2, 1) := by decide +kernel
theorem dX8_borneOf_20 : decode cX8_borneOf 20 = .ok (.iconst 1, 1) := by decide +kernel
theorem dX8_borneOf_21 : decode cX8_borneOf 21 = .ok (.lshl, 1) := by decide +kernel
theorem dX8_borneOf_22 : decode cX8_borneOf 22 = .ok (.lload_n 2, 1) := by decide +kernel
theorem dX8_borneOf_23 : decode cX8_borneOf 23 = .ok (.iconst 1, 1) := by decide +kernel
theorem dX8_borneOf_24 : decode cX8_borneOf 24 = .ok (.lushr, 1) := by decide +kernel
theorem dX8_borneOf_25 : decode cX8_borneOf 25 = .ok (.land, 1) := by decide +kernel
theorem dX8_borneOf_26 : decode cX8_borneOf 26 = .ok (.lor, 1) := by decide +kernel
theorem dX8_borneOf_27 : decode cX8_borneOf 27 = .ok (.lstore 7, 2) := by decide +kernel
theorem dX8_borneOf_29 : decode cX8_borneOf 29 = .ok (.lload_n 0, 1) := by decide +kernel
theorem dX8_borneOf_30 : decode cX8_borneOf 30 = .ok (.bipush 8, 2) := by decide +kernel
theorem dX8_borneOf_32 : decode cX8_borneOf 32 = .ok (.iload 6, 2) := by decide +kernel
theorem dX8_borneOf_34 : decode cX8_borneOf 34 = .ok (.imul, 1) := by decide +kernel
theorem dX8_borneOf_35 : decode cX8_borneOf 35 = .ok (.lushr, 1) := by decide +kernel
theorem dX8_borneOf_36 : decode cX8_borneOf 36 = .ok (.ldc2_w 362, 3) := by decide +kernel
theorem dX8_borneOf_39 : decode cX8_borneOf 39 = .ok (.land, 1) := by decide +kernel
theorem dX8_borneOf_40 : decode cX8_borneOf 40 = .ok (.lload 7, 2) := by decide +kernel
theorem dX8_borneOf_42 : decode cX8_borneOf 42 = .ok (.land, 1) := by decide +kernel
theorem dX8_borneOf_43 : decode cX8_borneOf 43 = .ok (.lstore_n 2, 1) := by decide +kernel
theorem dX8_borneOf_44 : decode cX8_borneOf 44 = .ok (.lload 4, 2) := by decide +kernel
theorem dX8_borneOf_46 : decode cX8_borneOf 46 = .ok (.lload_n 2, 1) := by decide +kernel
theorem dX8_borneOf_47 : decode cX8_borneOf 47 = .ok (.bipush 8, 2) := by decide +kernel
theorem dX8_borneOf_49 : decode cX8_borneOf 49 = .ok (.iload 6, 2) := by decide +kernel
theorem dX8_borneOf_51 : decode cX8_borneOf 51 = .ok (.imul, 1) := by decide +kernel
theorem dX8_borneOf_52 : decode cX8_borneOf 52 = .ok (.lshl, 1) := by decide +kernel
theorem dX8_borneOf_53 : decode cX8_borneOf 53 = .ok (.lor, 1) := by decide +kernel
theorem dX8_borneOf_54 : decode cX8_borneOf 54 = .ok (.lstore 4, 2) := by decide +kernel
theorem dX8_borneOf_56 : decode cX8_borneOf 56 = .ok (.iinc 6 1, 3) := by decide +kernel
theorem dX8_borneOf_59 : decode cX8_borneOf 59 = .ok (.goto (-47), 3) := by decide +kernel
theorem dX8_borneOf_62 : decode cX8_borneOf 62 = .ok (.lload 4, 2) := by decide +kernel
theorem dX8_borneOf_64 : decode cX8_borneOf 64 = .ok (.lreturn, 1) := by decide +kernel
theorem dX8_besideAtLeast_0 : decode cX8_besideAtLeast 0 = .ok (.iload_n 2, 1) := by decide +kernel
theorem dX8_besideAtLeast_1 : decode cX8_besideAtLeast 1 = .ok (.ifCond .gt 7, 3) := by decide +kernel
theorem dX8_besideAtLeast_4 : decode cX8_besideAtLeast 4 = .ok (.ldc2_w 226, 3) := by decide +kernel
theorem dX8_besideAtLeast_7 : decode cX8_besideAtLeast 7 = .ok (.lreturn, 1) := by decide +kernel
theorem dX8_besideAtLeast_8 : decode cX8_besideAtLeast 8 = .ok (.lload_n 0, 1) := by decide +kernel
theorem dX8_besideAtLeast_9 : decode cX8_besideAtLeast 9 = .ok (.ldc2_w 364, 3) := by decide +kernel
theorem dX8_besideAtLeast_12 : decode cX8_besideAtLeast 12 = .ok (.land, 1) := by decide +kernel
theorem dX8_besideAtLeast_13 : decode cX8_besideAtLeast 13 = .ok (.iconst 1, 1) := by decide +kernel
theorem dX8_besideAtLeast_14 : decode cX8_besideAtLeast 14 = .ok (.lshl, 1) := by decide +kernel
theorem dX8_besideAtLeast_15 : decode cX8_besideAtLeast 15 = .ok (.lstore_n 3, 1) := by decide +kernel
theorem dX8_besideAtLeast_16 : decode cX8_besideAtLeast 16 = .ok (.lload_n 0, 1) := by decide +kernel
theorem dX8_besideAtLeast_17 : decode cX8_besideAtLeast 17 = .ok (.ldc2_w 366, 3) := by decide +kernel
theorem dX8_besideAtLeast_20 : decode cX8_besideAtLeast 20 = .ok (.land, 1) := by decide +kernel
theorem dX8_besideAtLeast_21 : decode cX8_besideAtLeast 21 = .ok (.iconst 1, 1) := by decide +kernel
theorem dX8_besideAtLeast_22 : decode cX8_besideAtLeast 22 = .ok (.lushr, 1) := by decide +kernel
theorem dX8_besideAtLeast_23 : decode cX8_besideAtLeast 23 = .ok (.lstore 5, 2) := by decide +kernel
theorem dX8_besideAtLeast_25 : decode cX8_besideAtLeast 25 = .ok (.lload_n 0, 1) := by decide +kernel
theorem dX8_besideAtLeast_26 : decode cX8_besideAtLeast 26 = .ok (.bipush 8, 2) := by decide +kernel
theorem dX8_besideAtLeast_28 : decode cX8_besideAtLeast 28 = .ok (.lshl, 1) := by decide +kernel
theorem dX8_besideAtLeast_29 : decode cX8_besideAtLeast 29 = .ok (.lstore 7, 2) := by decide +kernel
theorem dX8_besideAtLeast_31 : decode cX8_besideAtLeast 31 = .ok (.lload_n 0, 1) := by decide +kernel
theorem dX8_besideAtLeast_32 : decode cX8_besideAtLeast 32 = .ok (.bipush 8, 2) := by decide +kernel
theorem dX8_besideAtLeast_34 : decode cX8_besideAtLeast 34 = .ok (.lushr, 1) := by decide +kernel
theorem dX8_besideAtLeast_35 : decode cX8_besideAtLeast 35 = .ok (.lstore 9, 2) := by decide +kernel
theorem dX8_besideAtLeast_37 : decode cX8_besideAtLeast 37 = .ok (.iload_n 2, 1) := by decide +kernel
theorem dX8_besideAtLeast_38 : decode cX8_besideAtLeast 38 = .ok (.tableswitch 96 1 4 #[30, 41, 63, 85], 30) := by decide +kernel
theorem dX8_besideAtLeast_68 : decode cX8_besideAtLeast 68 = .ok (.lload_n 3, 1) := by decide +kernel
theorem dX8_besideAtLeast_69 : decode cX8_besideAtLeast 69 = .ok (.lload 5, 2) := by decide +kernel
theorem dX8_besideAtLeast_71 : decode cX8_besideAtLeast 71 = .ok (.lor, 1) := by decide +kernel
theorem dX8_besideAtLeast_72 : decode cX8_besideAtLeast 72 = .ok (.lload 7, 2) := by decide +kernel
theorem dX8_besideAtLeast_74 : decode cX8_besideAtLeast 74 = .ok (.lor, 1) := by decide +kernel
theorem dX8_besideAtLeast_75 : decode cX8_besideAtLeast 75 = .ok (.lload 9, 2) := by decide +kernel
theorem dX8_besideAtLeast_77 : decode cX8_besideAtLeast 77 = .ok (.lor, 1) := by decide +kernel
theorem dX8_besideAtLeast_78 : decode cX8_besideAtLeast 78 = .ok (.lreturn, 1) := by decide +kernel
theorem dX8_besideAtLeast_79 : decode cX8_besideAtLeast 79 = .ok (.lload_n 3, 1) := by decide +kernel
theorem dX8_besideAtLeast_80 : decode cX8_besideAtLeast 80 = .ok (.lload 5, 2) := by decide +kernel
theorem dX8_besideAtLeast_82 : decode cX8_besideAtLeast 82 = .ok (.land, 1) := by decide +kernel
theorem dX8_besideAtLeast_83 : decode cX8_besideAtLeast 83 = .ok (.lload 7, 2) := by decide +kernel
theorem dX8_besideAtLeast_85 : decode cX8_besideAtLeast 85 = .ok (.lload 9, 2) := by decide +kernel
theorem dX8_besideAtLeast_87 : decode cX8_besideAtLeast 87 = .ok (.land, 1) := by decide +kernel
theorem dX8_besideAtLeast_88 : decode cX8_besideAtLeast 88 = .ok (.lor, 1) := by decide +kernel
theorem dX8_besideAtLeast_89 : decode cX8_besideAtLeast 89 = .ok (.lload_n 3, 1) := by decide +kernel
theorem dX8_besideAtLeast_90 : decode cX8_besideAtLeast 90 = .ok (.lload 5, 2) := by decide +kernel
theorem dX8_besideAtLeast_92 : decode cX8_besideAtLeast 92 = .ok (.lor, 1) := by decide +kernel
theorem dX8_besideAtLeast_93 : decode cX8_besideAtLeast 93 = .ok (.lload 7, 2) := by decide +kernel
theorem dX8_besideAtLeast_95 : decode cX8_besideAtLeast 95 = .ok (.lload 9, 2) := by decide +kernel
theorem dX8_besideAtLeast_97 : decode cX8_besideAtLeast 97 = .ok (.lor, 1) := by decide +kernel
theorem dX8_besideAtLeast_98 : decode cX8_besideAtLeast 98 = .ok (.land, 1) := by decide +kernel
theorem dX8_besideAtLeast_99 : decode cX8_besideAtLeast 99 = .ok (.lor, 1) := by decide +kernel
theorem dX8_besideAtLeast_100 : decode cX8_besideAtLeast 100 = .ok (.lreturn, 1) := by decide +kernel
theorem dX8_besideAtLeast_101 : decode cX8_besideAtLeast 101 = .ok (.lload_n 3, 1) := by decide +kernel
theorem dX8_besideAtLeast_102 : decode cX8_besideAtLeast 102 = .ok (.lload 5, 2) := by decide +kernel
theorem dX8_besideAtLeast_104 : decode cX8_besideAtLeast 104 = .ok (.land, 1) := by decide +kernel
theorem dX8_besideAtLeast_105 : decode cX8_besideAtLeast 105 = .ok (.lload 7, 2) := by decide +kernel
theorem dX8_besideAtLeast_107 : decode cX8_besideAtLeast 107 = .ok (.lload 9, 2) := by decide +kernel
theorem dX8_besideAtLeast_109 : decode cX8_besideAtLeast 109 = .ok (.lor, 1) := by decide +kernel
theorem dX8_besideAtLeast_110 : decode cX8_besideAtLeast 110 = .ok (.land, 1) := by decide +kernel
theorem dX8_besideAtLeast_111 : decode cX8_besideAtLeast 111 = .ok (.lload 7, 2) := by decide +kernel
theorem dX8_besideAtLeast_113 : decode cX8_besideAtLeast 113 = .ok (.lload 9, 2) := by decide +kernel
theorem dX8_besideAtLeast_115 : decode cX8_besideAtLeast 115 = .ok (.land, 1) := by decide +kernel
theorem dX8_besideAtLeast_116 : decode cX8_besideAtLeast 116 = .ok (.lload_n 3, 1) := by decide +kernel
theorem dX8_besideAtLeast_117 : decode cX8_besideAtLeast 117 = .ok (.lload 5, 2) := by decide +kernel
theorem dX8_besideAtLeast_119 : decode cX8_besideAtLeast 119 = .ok (.lor, 1) := by decide +kernel
theorem dX8_besideAtLeast_120 : decode cX8_besideAtLeast 120 = .ok (.land, 1) := by decide +kernel
theorem dX8_besideAtLeast_121 : decode cX8_besideAtLeast 121 = .ok (.lor, 1) := by decide +kernel
theorem dX8_besideAtLeast_122 : decode cX8_besideAtLeast 122 = .ok (.lreturn, 1) := by decide +kernel
theorem dX8_besideAtLeast_123 : decode cX8_besideAtLeast 123 = .ok (.lload_n 3, 1) := by decide +kernel
theorem dX8_besideAtLeast_124 : decode cX8_besideAtLeast 124 = .ok (.lload 5, 2) := by decide +kernel
theorem dX8_besideAtLeast_126 : decode cX8_besideAtLeast 126 = .ok (.land, 1) := by decide +kernel
theorem dX8_besideAtLeast_127 : decode cX8_besideAtLeast 127 = .ok (.lload 7, 2) := by decide +kernel
theorem dX8_besideAtLeast_129 : decode cX8_besideAtLeast 129 = .ok (.land, 1) := by decide +kernel
theorem dX8_besideAtLeast_130 : decode cX8_besideAtLeast 130 = .ok (.lload 9, 2) := by decide +kernel
theorem dX8_besideAtLeast_132 : decode cX8_besideAtLeast 132 = .ok (.land, 1) := by decide +kernel
theorem dX8_besideAtLeast_133 : decode cX8_besideAtLeast 133 = .ok (.lreturn, 1) := by decide +kernel
theorem dX8_besideAtLeast_134 : decode cX8_besideAtLeast 134 = .ok (.lconst 0, 1) := by decide +kernel
theorem dX8_besideAtLeast_135 : decode cX8_besideAtLeast 135 = .ok (.lreturn, 1) := by decide +kernel
theorem dX9_init_0 : decode cX9_init 0 = .ok (.aload_n 0, 1) := by decide +kernel
theorem dX9_init_1 : decode cX9_init 1 = .ok (.invokespecial 1, 3) := by decide +kernel
theorem dX9_init_4 : decode cX9_init 4 = .ok (.aload_n 0, 1) := by decide +kernel
theorem dX9_init_5 : decode cX9_init 5 = .ok (.iconst 2, 1) := by decide +kernel
theorem dX9_init_6 : decode cX9_init 6 = .ok (.newarray .int, 2) := by decide +kernel
theorem dX9_init_8 : decode cX9_init 8 = .ok (.putfield 7, 3) := by decide +kernel
theorem dX9_init_11 : decode cX9_init 11 = .ok (.aload_n 0, 1) := by decide +kernel
theorem dX9_init_12 : decode cX9_init 12 = .ok (.bipush 88, 2) := by decide +kernel
theorem dX9_init_14 : decode cX9_init 14 = .ok (.newarray .int, 2) := by decide +kernel
theorem dX9_init_16 : decode cX9_init 16 = .ok (.putfield 13, 3) := by decide +kernel
theorem dX9_init_19 : decode cX9_init 19 = .ok (.aload_n 0, 1) := by decide +kernel
theorem dX9_init_20 : decode cX9_init 20 = .ok (.bipush 48, 2) := by decide +kernel
theorem dX9_init_22 : decode cX9_init 22 = .ok (.newarray .int, 2) := by decide +kernel
theorem dX9_init_24 : decode cX9_init 24 = .ok (.putfield 16, 3) := by decide +kernel
theorem dX9_init_27 : decode cX9_init 27 = .ok (.aload_n 0, 1) := by decide +kernel
theorem dX9_init_28 : decode cX9_init 28 = .ok (.bipush 9, 2) := by decide +kernel
theorem dX9_init_30 : decode cX9_init 30 = .ok (.newarray .int, 2) := by decide +kernel
theorem dX9_init_32 : decode cX9_init 32 = .ok (.putfield 19, 3) := by decide +kernel
theorem dX9_init_35 : decode cX9_init 35 = .ok (.aload_n 0, 1) := by decide +kernel
theorem dX9_init_36 : decode cX9_init 36 = .ok (.bipush 9, 2) := by decide +kernel
theorem dX9_init_38 : decode cX9_init 38 = .ok (.newarray .int, 2) := by decide +kernel
theorem dX9_init_40 : decode cX9_init 40 = .ok (.putfield 22, 3) := by decide +kernel
theorem dX9_init_43 : decode cX9_init 43 = .ok (.aload_n 0, 1) := by decide +kernel
theorem dX9_init_44 : decode cX9_init 44 = .ok (.bipush 6, 2) := by decide +kernel
theorem dX9_init_46 : decode cX9_init 46 = .ok (.newarray .int, 2) := by decide +kernel
theorem dX9_init_48 : decode cX9_init 48 = .ok (.putfield 25, 3) := by decide +kernel
theorem dX9_init_51 : decode cX9_init 51 = .ok (.aload_n 0, 1) := by decide +kernel
theorem dX9_init_52 : decode cX9_init 52 = .ok (.bipush 6, 2) := by decide +kernel
theorem dX9_init_54 : decode cX9_init 54 = .ok (.newarray .int, 2) := by decide +kernel
theorem dX9_init_56 : decode cX9_init 56 = .ok (.putfield 28, 3) := by decide +kernel
theorem dX9_init_59 : decode cX9_init 59 = .ok (.aload_n 0, 1) := by decide +kernel
theorem dX9_init_60 : decode cX9_init 60 = .ok (.bipush 7, 2) := by decide +kernel
theorem dX9_init_62 : decode cX9_init 62 = .ok (.newarray .int, 2) := by decide +kernel
theorem dX9_init_64 : decode cX9_init 64 = .ok (.putfield 31, 3) := by decide +kernel
theorem dX9_init_67 : decode cX9_init 67 = .ok (.aload_n 0, 1) := by decide +kernel
theorem dX9_init_68 : decode cX9_init 68 = .ok (.bipush 7, 2) := by decide +kernel
theorem dX9_init_70 : decode cX9_init 70 = .ok (.newarray .int, 2) := by decide +kernel
theorem dX9_init_72 : decode cX9_init 72 = .ok (.putfield 34, 3) := by decide +kernel
theorem dX9_init_75 : decode cX9_init 75 = .ok (.aload_n 0, 1) := by decide +kernel
theorem dX9_init_76 : decode cX9_init 76 = .ok (.bipush 7, 2) := by decide +kernel
theorem dX9_init_78 : decode cX9_init 78 = .ok (.newarray .int, 2) := by decide +kernel
theorem dX9_init_80 : decode cX9_init 80 = .ok (.putfield 37, 3) := by decide +kernel
theorem dX9_init_83 : decode cX9_init 83 = .ok (.aload_n 0, 1) := by decide +kernel
theorem dX9_init_84 : decode cX9_init 84 = .ok (.bipush 40, 2) := by decide +kernel
theorem dX9_init_86 : decode cX9_init 86 = .ok (.newarray .int, 2) := by decide +kernel
theorem dX9_init_88 : decode cX9_init 88 = .ok (.putfield 40, 3) := by decide +kernel
theorem dX9_init_91 : decode cX9_init 91 = .ok (.aload_n 0, 1) := by decide +kernel
theorem dX9_init_92 : decode cX9_init 92 = .ok (.bipush 6, 2) := by decide +kernel
theorem dX9_init_94 : decode cX9_init 94 = .ok (.newarray .int, 2) := by decide +kernel
theorem dX9_init_96 : decode cX9_init 96 = .ok (.putfield 43, 3) := by decide +kernel
theorem dX9_init_99 : decode cX9_init 99 = .ok (.aload_n 0, 1) := by decide +kernel
theorem dX9_init_100 : decode cX9_init 100 = .ok (.bipush 6, 2) := by decide +kernel
theorem dX9_init_102 : decode cX9_init 102 = .ok (.newarray .int, 2) := by decide +kernel
theorem dX9_init_104 : decode cX9_init 104 = .ok (.putfield 46, 3) := by decide +kernel
theorem dX9_init_107 : decode cX9_init 107 = .ok (.aload_n 0, 1) := by decide +kernel
theorem dX9_init_108 : decode cX9_init 108 = .ok (.bipush 40, 2) := by decide +kernel
theorem dX9_init_110 : decode cX9_init 110 = .ok (.newarray .int, 2) := by decide +kernel
theorem dX9_init_112 : decode cX9_init 112 = .ok (.putfield 49, 3) := by decide +kernel
theorem dX9_init_115 : decode cX9_init 115 = .ok (.aload_n 0, 1) := by decide +kernel
theorem dX9_init_116 : decode cX9_init 116 = .ok (.bipush 8, 2) := by decide +kernel
theorem dX9_init_118 : decode cX9_init 118 = .ok (.newarray .int, 2) := by decide +kernel
theorem dX9_init_120 : decode cX9_init 120 = .ok (.putfield 52, 3) := by decide +kernel
theorem dX9_init_123 : decode cX9_init 123 = .ok (.aload_n 0, 1) := by decide +kernel
theorem dX9_init_124 : decode cX9_init 124 = .ok (.sipush 800, 3) := by decide +kernel
theorem dX9_init_127 : decode cX9_init 127 = .ok (.newarray .int, 2) := by decide +kernel
theorem dX9_init_129 : decode cX9_init 129 = .ok (.putfield 55, 3) := by decide +kernel
theorem dX9_init_132 : decode cX9_init 132 = .ok (.aload_n 0, 1) := by decide +kernel
theorem dX9_init_133 : decode cX9_init 133 = .ok (.sipush 800, 3) := by decide +kernel
theorem dX9_init_136 : decode cX9_init 136 = .ok (.newarray .int, 2) := by decide +kernel
theorem dX9_init_138 : decode cX9_init 138 = .ok (.putfield 58, 3) := by decide +kernel
theorem dX9_init_141 : decode cX9_init 141 = .ok (.aload_n 0, 1) := by decide +kernel
theorem dX9_init_142 : decode cX9_init 142 = .ok (.bipush 20, 2) := by decide +kernel
theorem dX9_init_144 : decode cX9_init 144 = .ok (.newarray .int, 2) := by decide +kernel
theorem dX9_init_146 : decode cX9_init 146 = .ok (.putfield 61, 3) := by decide +kernel
theorem dX9_init_149 : decode cX9_init 149 = .ok (.aload_n 0, 1) := by decide +kernel
theorem dX9_init_150 : decode cX9_init 150 = .ok (.bipush 20, 2) := by decide +kernel
theorem dX9_init_152 : decode cX9_init 152 = .ok (.newarray .int, 2) := by decide +kernel
theorem dX9_init_154 : decode cX9_init 154 = .ok (.putfield 64, 3) := by decide +kernel
theorem dX9_init_157 : decode cX9_init 157 = .ok (.aload_n 0, 1) := by decide +kernel
theorem dX9_init_158 : decode cX9_init 158 = .ok (.sipush 160, 3) := by decide +kernel
theorem dX9_init_161 : decode cX9_init 161 = .ok (.newarray .int, 2) := by decide +kernel
theorem dX9_init_163 : decode cX9_init 163 = .ok (.putfield 67, 3) := by decide +kernel
theorem dX9_init_166 : decode cX9_init 166 = .ok (.aload_n 0, 1) := by decide +kernel
theorem dX9_init_167 : decode cX9_init 167 = .ok (.sipush 160, 3) := by decide +kernel
theorem dX9_init_170 : decode cX9_init 170 = .ok (.newarray .boolean, 2) := by decide +kernel
theorem dX9_init_172 : decode cX9_init 172 = .ok (.putfield 70, 3) := by decide +kernel
theorem dX9_init_175 : decode cX9_init 175 = .ok (.aload_n 0, 1) := by decide +kernel
theorem dX9_init_176 : decode cX9_init 176 = .ok (.bipush 8, 2) := by decide +kernel
theorem dX9_init_178 : decode cX9_init 178 = .ok (.newarray .int, 2) := by decide +kernel
theorem dX9_init_180 : decode cX9_init 180 = .ok (.putfield 74, 3) := by decide +kernel
theorem dX9_init_183 : decode cX9_init 183 = .ok (.aload_n 0, 1) := by decide +kernel
theorem dX9_init_184 : decode cX9_init 184 = .ok (.bipush 8, 2) := by decide +kernel
theorem dX9_init_186 : decode cX9_init 186 = .ok (.newarray .int, 2) := by decide +kernel
theorem dX9_init_188 : decode cX9_init 188 = .ok (.putfield 77, 3) := by decide +kernel
theorem dX9_init_191 : decode cX9_init 191 = .ok (.aload_n 0, 1) := by decide +kernel
theorem dX9_init_192 : decode cX9_init 192 = .ok (.bipush 8, 2) := by decide +kernel
theorem dX9_init_194 : decode cX9_init 194 = .ok (.newarray .int, 2) := by decide +kernel
theorem dX9_init_196 : decode cX9_init 196 = .ok (.putfield 80, 3) := by decide +kernel
theorem dX9_init_199 : decode cX9_init 199 = .ok (.aload_n 0, 1) := by decide +kernel
theorem dX9_init_200 : decode cX9_init 200 = .ok (.sipush 200, 3) := by decide +kernel
theorem dX9_init_203 : decode cX9_init 203 = .ok (.newarray .int, 2) := by decide +kernel
theorem dX9_init_205 : decode cX9_init 205 = .ok (.putfield 83, 3) := by decide +kernel
theorem dX9_init_208 : decode cX9_init 208 = .ok (.aload_n 0, 1) := by decide +kernel
theorem dX9_init_209 : decode cX9_init 209 = .ok (.iconst 4, 1) := by decide +kernel
theorem dX9_init_210 : decode cX9_init 210 = .ok (.newarray .boolean, 2) := by decide +kernel
theorem dX9_init_212 : decode cX9_init 212 = .ok (.putfield 86, 3) := by decide +kernel
theorem dX9_init_215 : decode cX9_init 215 = .ok (.aload_n 0, 1) := by decide +kernel
theorem dX9_init_216 : decode cX9_init 216 = .ok (.iconst 4, 1) := by decide +kernel
theorem dX9_init_217 : decode cX9_init 217 = .ok (.newarray .int, 2) := by decide +kernel
theorem dX9_init_219 : decode cX9_init 219 = .ok (.putfield 89, 3) := by decide +kernel
theorem dX9_init_222 : decode cX9_init 222 = .ok (.aload_n 0, 1) := by decide +kernel
theorem dX9_init_223 : decode cX9_init 223 = .ok (.iconst 4, 1) := by decide +kernel
theorem dX9_init_224 : decode cX9_init 224 = .ok (.newarray .int, 2) := by decide +kernel
theorem dX9_init_226 : decode cX9_init 226 = .ok (.putfield 92, 3) := by decide +kernel
theorem dX9_init_229 : decode cX9_init 229 = .ok (.aload_n 0, 1) := by decide +kernel
theorem dX9_init_230 : decode cX9_init 230 = .ok (.sipush 240, 3) := by decide +kernel
theorem dX9_init_233 : decode cX9_init 233 = .ok (.newarray .int, 2) := by decide +kernel
theorem dX9_init_235 : decode cX9_init 235 = .ok (.putfield 95, 3) := by decide +kernel
theorem dX9_init_238 : decode cX9_init 238 = .ok (.aload_n 0, 1) := by decide +kernel
theorem dX9_init_239 : decode cX9_init 239 = .ok (.bipush 60, 2) := by decide +kernel
theorem dX9_init_241 : decode cX9_init 241 = .ok (.newarray .int, 2) := by decide +kernel
theorem dX9_init_243 : decode cX9_init 243 = .ok (.putfield 98, 3) := by decide +kernel
theorem dX9_init_246 : decode cX9_init 246 = .ok (.aload_n 0, 1) := by decide +kernel
theorem dX9_init_247 : decode cX9_init 247 = .ok (.iconst 2, 1) := by decide +kernel
theorem dX9_init_248 : decode cX9_init 248 = .ok (.putfield 101, 3) := by decide +kernel
theorem dX9_init_251 : decode cX9_init 251 = .ok (.return_, 1) := by decide +kernel
theorem dX9_in_0 : decode cX9_in 0 = .ok (.iload_n 0, 1) := by decide +kernel
theorem dX9_in_1 : decode cX9_in 1 = .ok (.iload_n 1, 1) := by decide +kernel
theorem dX9_in_2 : decode cX9_in 2 = .ok (.if_icmp .lt 12, 3) := by decide +kernel
theorem dX9_in_5 : decode cX9_in 5 = .ok (.iload_n 0, 1) := by decide +kernel
theorem dX9_in_6 : decode cX9_in 6 = .ok (.iload_n 2, 1) := by decide +kernel
theorem dX9_in_7 : decode cX9_in 7 = .ok (.if_icmp .gt 7, 3) := by decide +kernel
theorem dX9_in_10 : decode cX9_in 10 = .ok (.iconst 1, 1) := by decide +kernel
theorem dX9_in_11 : decode cX9_in 11 = .ok (.goto 4, 3) := by decide +kernel
theorem dX9_in_14 : decode cX9_in 14 = .ok (.iconst 0, 1) := by decide +kernel
theorem dX9_in_15 : decode cX9_in 15 = .ok (.ireturn, 1) := by decide +kernel
theorem dX9_isIn_0 : decode cX9_isIn 0 = .ok (.iload_n 0, 1) := by decide +kernel
theorem dX9_isIn_1 : decode cX9_isIn 1 = .ok (.iload_n 1, 1) := by decide +kernel
theorem dX9_isIn_2 : decode cX9_isIn 2 = .ok (.ishr, 1) := by decide +kernel
theorem dX9_isIn_3 : decode cX9_isIn 3 = .ok (.iconst 1, 1) := by decide +kernel
theorem dX9_isIn_4 : decode cX9_isIn 4 = .ok (.iand, 1) := by decide +kernel
theorem dX9_isIn_5 : decode cX9_isIn 5 = .ok (.iconst 1, 1) := by decide +kernel
theorem dX9_isIn_6 : decode cX9_isIn 6 = .ok (.if_icmp .ne 7, 3) := by decide +kernel
theorem dX9_isIn_9 : decode cX9_isIn 9 = .ok (.iconst 1, 1) := by decide +kernel
theorem dX9_isIn_10 : decode cX9_isIn 10 = .ok (.goto 4, 3) := by decide +kernel
theorem dX9_isIn_13 : decode cX9_isIn 13 = .ok (.iconst 0, 1) := by decide +kernel
theorem dX9_isIn_14 : decode cX9_isIn 14 = .ok (.ireturn, 1) := by decide +kernel
theorem dX9_no_0 : decode cX9_no 0 = .ok (.ldc2_w 105, 3) := by decide +kernel
theorem dX9_no_3 : decode cX9_no 3 = .ok (.iload_n 0, 1) := by decide +kernel
theorem dX9_no_4 : decode cX9_no 4 = .ok (.i2l, 1) := by decide +kernel
theorem dX9_no_5 : decode cX9_no 5 = .ok (.lsub, 1) := by decide +kernel
theorem dX9_no_6 : decode cX9_no 6 = .ok (.lreturn, 1) := by decide +kernel
theorem dX9_lowest_0 : decode cX9_lowest 0 = .ok (.lload_n 0, 1) := by decide +kernel
theorem dX9_lowest_1 : decode cX9_lowest 1 = .ok (.lstore 5, 2) := by decide +kernel
theorem dX9_lowest_3 : decode cX9_lowest 3 = .ok (.lload_n 2, 1) := by decide +kernel
theorem dX9_lowest_4 : decode cX9_lowest 4 = .ok (.lstore 7, 2) := by decide +kernel
theorem dX9_lowest_6 : decode cX9_lowest 6 = .ok (.lload 7, 2) := by decide +kernel
theorem dX9_lowest_8 : decode cX9_lowest 8 = .ok (.lconst 0, 1) := by decide +kernel
theorem dX9_lowest_9 : decode cX9_lowest 9 = .ok (.lcmp, 1) := by decide +kernel
theorem dX9_lowest_10 : decode cX9_lowest 10 = .ok (.ifCond .eq 21, 3) := by decide +kernel
theorem dX9_lowest_13 : decode cX9_lowest 13 = .ok (.lload 5, 2) := by decide +kernel
theorem dX9_lowest_15 : decode cX9_lowest 15 = .ok (.lload 7, 2) := by decide +kernel
theorem dX9_lowest_17 : decode cX9_lowest 17 = .ok (.lrem, 1) := by decide +kernel
theorem dX9_lowest_18 : decode cX9_lowest 18 = .ok (.lstore 9, 2) := by decide +kernel
theorem dX9_lowest_20 : decode cX9_lowest 20 = .ok (.lload 7, 2) := by decide +kernel
theorem dX9_lowest_22 : decode cX9_lowest 22 = .ok (.lstore 5, 2) := by decide +kernel
theorem dX9_lowest_24 : decode cX9_lowest 24 = .ok (.lload 9, 2) := by decide +kernel
theorem dX9_lowest_26 : decode cX9_lowest 26 = .ok (.lstore 7, 2) := by decide +kernel
theorem dX9_lowest_28 : decode cX9_lowest 28 = .ok (.goto (-22), 3) := by decide +kernel
theorem dX9_lowest_31 : decode cX9_lowest 31 = .ok (.iload 4, 2) := by decide +kernel
theorem dX9_lowest_33 : decode cX9_lowest 33 = .ok (.ifCond .ne 10, 3) := by decide +kernel
theorem dX9_lowest_36 : decode cX9_lowest 36 = .ok (.lload_n 0, 1) := by decide +kernel
theorem dX9_lowest_37 : decode cX9_lowest 37 = .ok (.lload 5, 2) := by decide +kernel
theorem dX9_lowest_39 : decode cX9_lowest 39 = .ok (.ldiv, 1) := by decide +kernel
theorem dX9_lowest_40 : decode cX9_lowest 40 = .ok (.goto 7, 3) := by decide +kernel
theorem dX9_lowest_43 : decode cX9_lowest 43 = .ok (.lload_n 2, 1) := by decide +kernel
theorem dX9_lowest_44 : decode cX9_lowest 44 = .ok (.lload 5, 2) := by decide +kernel
theorem dX9_lowest_46 : decode cX9_lowest 46 = .ok (.ldiv, 1) := by decide +kernel
theorem dX9_lowest_47 : decode cX9_lowest 47 = .ok (.lreturn, 1) := by decide +kernel
theorem dX9_isText_0 : decode cX9_isText 0 = .ok (.iload_n 0, 1) := by decide +kernel
theorem dX9_isText_1 : decode cX9_isText 1 = .ok (.iconst 0, 1) := by decide +kernel
theorem dX9_isText_2 : decode cX9_isText 2 = .ok (.iconst 1, 1) := by decide +kernel
theorem dX9_isText_3 : decode cX9_isText 3 = .ok (.invokestatic 107, 3) := by decide +kernel
theorem dX9_isText_6 : decode cX9_isText 6 = .ok (.ireturn, 1) := by decide +kernel
theorem dX9_isYear_0 : decode cX9_isYear 0 = .ok (.iload_n 0, 1) := by decide +kernel
theorem dX9_isYear_1 : decode cX9_isYear 1 = .ok (.iconst 0, 1) := by decide +kernel
theorem dX9_isYear_2 : decode cX9_isYear 2 = .ok (.bipush 19, 2) := by decide +kernel
theorem dX9_isYear_4 : decode cX9_isYear 4 = .ok (.invokestatic 107, 3) := by decide +kernel
theorem dX9_isYear_7 : decode cX9_isYear 7 = .ok (.ireturn, 1) := by decide +kernel
theorem dX9_isEight_0 : decode cX9_isEight 0 = .ok (.iload_n 0, 1) := by decide +kernel
theorem dX9_isEight_1 : decode cX9_isEight 1 = .ok (.iconst 0, 1) := by decide +kernel
theorem dX9_isEight_2 : decode cX9_isEight 2 = .ok (.bipush 7, 2) := by decide +kernel
theorem dX9_isEight_4 : decode cX9_isEight 4 = .ok (.invokestatic 107, 3) := by decide +kernel
theorem dX9_isEight_7 : decode cX9_isEight 7 = .ok (.ireturn, 1) := by decide +kernel
theorem dX9_isPlace_0 : decode cX9_isPlace 0 = .ok (.iload_n 0, 1) := by decide +kernel
theorem dX9_isPlace_1 : decode cX9_isPlace 1 = .ok (.iconst 0, 1) := by decide +kernel
theorem dX9_isPlace_2 : decode cX9_isPlace 2 = .ok (.iconst 4, 1) := by decide +kernel
theorem dX9_isPlace_3 : decode cX9_isPlace 3 = .ok (.invokestatic 107, 3) := by decide +kernel
theorem dX9_isPlace_6 : decode cX9_isPlace 6 = .ok (.ifCond .eq 14, 3) := by decide +kernel
theorem dX9_isPlace_9 : decode cX9_isPlace 9 = .ok (.iload_n 1, 1) := by decide +kernel
theorem dX9_isPlace_10 : decode cX9_isPlace 10 = .ok (.invokestatic 111, 3) := by decide +kernel
theorem dX9_isPlace_13 : decode cX9_isPlace 13 = .ok (.ifCond .eq 7, 3) := by decide +kernel
theorem dX9_isPlace_16 : decode cX9_isPlace 16 = .ok (.iconst 1, 1) := by decide +kernel
theorem dX9_isPlace_17 : decode cX9_isPlace 17 = .ok (.goto 4, 3) := by decide +kernel
theorem dX9_isPlace_20 : decode cX9_isPlace 20 = .ok (.iconst 0, 1) := by decide +kernel
theorem dX9_isPlace_21 : decode cX9_isPlace 21 = .ok (.ireturn, 1) := by decide +kernel
theorem dX9_type_0 : decode cX9_type 0 = .ok (.iload_n 1, 1) := by decide +kernel
theorem dX9_type_1 : decode cX9_type 1 = .ok (.invokestatic 115, 3) := by decide +kernel
theorem dX9_type_4 : decode cX9_type 4 = .ok (.ifCond .eq 14, 3) := by decide +kernel
theorem dX9_type_7 : decode cX9_type 7 = .ok (.iload_n 2, 1) := by decide +kernel
theorem dX9_type_8 : decode cX9_type 8 = .ok (.iconst 0, 1) := by decide +kernel
theorem dX9_type_9 : decode cX9_type 9 = .ok (.sipush 255, 3) := by decide +kernel
theorem dX9_type_12 : decode cX9_type 12 = .ok (.invokestatic 107, 3) := by decide +kernel
theorem dX9_type_15 : decode cX9_type 15 = .ok (.ifCond .ne 6, 3) := by decide +kernel
theorem dX9_type_18 : decode cX9_type 18 = .ok (.bipush (-2), 2) := by decide +kernel
theorem dX9_type_20 : decode cX9_type 20 = .ok (.ireturn, 1) := by decide +kernel
theorem dX9_type_21 : decode cX9_type 21 = .ok (.aload_n 0, 1) := by decide +kernel
theorem dX9_type_22 : decode cX9_type 22 = .ok (.getfield 7, 3) := by decide +kernel
theorem dX9_type_25 : decode cX9_type 25 = .ok (.iload_n 1, 1) := by decide +kernel
theorem dX9_type_26 : decode cX9_type 26 = .ok (.iaload, 1) := by decide +kernel
theorem dX9_type_27 : decode cX9_type 27 = .ok (.iload_n 1, 1) := by decide +kernel
theorem dX9_type_28 : decode cX9_type 28 = .ok (.ifCond .ne 8, 3) := by decide +kernel
theorem dX9_type_31 : decode cX9_type 31 = .ok (.bipush 44, 2) := by decide +kernel
theorem dX9_type_33 : decode cX9_type 33 = .ok (.goto 5, 3) := by decide +kernel
theorem dX9_type_36 : decode cX9_type 36 = .ok (.bipush 23, 2) := by decide +kernel
theorem dX9_type_38 : decode cX9_type 38 = .ok (.if_icmp .ne 6, 3) := by decide +kernel
theorem dX9_type_41 : decode cX9_type 41 = .ok (.bipush (-4), 2) := by decide +kernel
theorem dX9_type_43 : decode cX9_type 43 = .ok (.ireturn, 1) := by decide +kernel
theorem dX9_type_44 : decode cX9_type 44 = .ok (.aload_n 0, 1) := by decide +kernel
theorem dX9_type_45 : decode cX9_type 45 = .ok (.getfield 13, 3) := by decide +kernel
theorem dX9_type_48 : decode cX9_type 48 = .ok (.bipush 44, 2) := by decide +kernel
theorem dX9_type_50 : decode cX9_type 50 = .ok (.iload_n 1, 1) := by decide +kernel
theorem dX9_type_51 : decode cX9_type 51 = .ok (.imul, 1) := by decide +kernel
theorem dX9_type_52 : decode cX9_type 52 = .ok (.aload_n 0, 1) := by decide +kernel
theorem dX9_type_53 : decode cX9_type 53 = .ok (.getfield 7, 3) := by decide +kernel
theorem dX9_type_56 : decode cX9_type 56 = .ok (.iload_n 1, 1) := by decide +kernel
theorem dX9_type_57 : decode cX9_type 57 = .ok (.iaload, 1) := by decide +kernel
theorem dX9_type_58 : decode cX9_type 58 = .ok (.iadd, 1) := by decide +kernel
theorem dX9_type_59 : decode cX9_type 59 = .ok (.iload_n 2, 1) := by decide +kernel
theorem dX9_type_60 : decode cX9_type 60 = .ok (.iastore, 1) := by decide +kernel
theorem dX9_type_61 : decode cX9_type 61 = .ok (.aload_n 0, 1) := by decide +kernel
theorem dX9_type_62 : decode cX9_type 62 = .ok (.getfield 7, 3) := by decide +kernel
theorem dX9_type_65 : decode cX9_type 65 = .ok (.iload_n 1, 1) := by decide +kernel
theorem dX9_type_66 : decode cX9_type 66 = .ok (.dup2, 1) := by decide +kernel
theorem dX9_type_67 : decode cX9_type 67 = .ok (.iaload, 1) := by decide +kernel
theorem dX9_type_68 : decode cX9_type 68 = .ok (.iconst 1, 1) := by decide +kernel
theorem dX9_type_69 : decode cX9_type 69 = .ok (.iadd, 1) := by decide +kernel
theorem dX9_type_70 : decode cX9_type 70 = .ok (.iastore, 1) := by decide +kernel
theorem dX9_type_71 : decode cX9_type 71 = .ok (.aload_n 0, 1) := by decide +kernel
theorem dX9_type_72 : decode cX9_type 72 = .ok (.getfield 7, 3) := by decide +kernel
theorem dX9_type_75 : decode cX9_type 75 = .ok (.iload_n 1, 1) := by decide +kernel
theorem dX9_type_76 : decode cX9_type 76 = .ok (.iaload, 1) := by decide +kernel
theorem dX9_type_77 : decode cX9_type 77 = .ok (.ireturn, 1) := by decide +kernel
theorem dX9_wipe_0 : decode cX9_wipe 0 = .ok (.iload_n 1, 1) := by decide +kernel
theorem dX9_wipe_1 : decode cX9_wipe 1 = .ok (.invokestatic 115, 3) := by decide +kernel
theorem dX9_wipe_4 : decode cX9_wipe 4 = .ok (.ifCond .ne 6, 3) := by decide +kernel
theorem dX9_wipe_7 : decode cX9_wipe 7 = .ok (.bipush (-2), 2) := by decide +kernel
theorem dX9_wipe_9 : decode cX9_wipe 9 = .ok (.ireturn, 1) := by decide +kernel
theorem dX9_wipe_10 : decode cX9_wipe 10 = .ok (.aload_n 0, 1) := by decide +kernel
theorem dX9_wipe_11 : decode cX9_wipe 11 = .ok (.getfield 7, 3) := by decide +kernel
theorem dX9_wipe_14 : decode cX9_wipe 14 = .ok (.iload_n 1, 1) := by decide +kernel
theorem dX9_wipe_15 : decode cX9_wipe 15 = .ok (.iaload, 1) := by decide +kernel
theorem dX9_wipe_16 : decode cX9_wipe 16 = .ok (.istore_n 2, 1) := by decide +kernel
theorem dX9_wipe_17 : decode cX9_wipe 17 = .ok (.aload_n 0, 1) := by decide +kernel
theorem dX9_wipe_18 : decode cX9_wipe 18 = .ok (.getfield 7, 3) := by decide +kernel
theorem dX9_wipe_21 : decode cX9_wipe 21 = .ok (.iload_n 1, 1) := by decide +kernel
theorem dX9_wipe_22 : decode cX9_wipe 22 = .ok (.iconst 0, 1) := by decide +kernel
theorem dX9_wipe_23 : decode cX9_wipe 23 = .ok (.iastore, 1) := by decide +kernel
theorem dX9_wipe_24 : decode cX9_wipe 24 = .ok (.iload_n 2, 1) := by decide +kernel
theorem dX9_wipe_25 : decode cX9_wipe 25 = .ok (.ireturn, 1) := by decide +kernel
theorem dX9_undo_0 : decode cX9_undo 0 = .ok (.iload_n 1, 1) := by decide +kernel
theorem dX9_undo_1 : decode cX9_undo 1 = .ok (.invokestatic 115, 3) := by decide +kernel
theorem dX9_undo_4 : decode cX9_undo 4 = .ok (.ifCond .ne 6, 3) := by decide +kernel
theorem dX9_undo_7 : decode cX9_undo 7 = .ok (.bipush (-2), 2) := by decide +kernel
theorem dX9_undo_9 : decode cX9_undo 9 = .ok (.ireturn, 1) := by decide +kernel
theorem dX9_undo_10 : decode cX9_undo 10 = .ok (.aload_n 0, 1) := by decide +kernel
theorem dX9_undo_11 : decode cX9_undo 11 = .ok (.getfield 7, 3) := by decide +kernel
theorem dX9_undo_14 : decode cX9_undo 14 = .ok (.iload_n 1, 1) := by decide +kernel
theorem dX9_undo_15 : decode cX9_undo 15 = .ok (.iaload, 1) := by decide +kernel
theorem dX9_undo_16 : decode cX9_undo 16 = .ok (.ifCond .ne 6, 3) := by decide +kernel
theorem dX9_undo_19 : decode cX9_undo 19 = .ok (.bipush (-3), 2) := by decide +kernel
theorem dX9_undo_21 : decode cX9_undo 21 = .ok (.ireturn, 1) := by decide +kernel
theorem dX9_undo_22 : decode cX9_undo 22 = .ok (.aload_n 0, 1) := by decide +kernel
theorem dX9_undo_23 : decode cX9_undo 23 = .ok (.getfield 7, 3) := by decide +kernel
theorem dX9_undo_26 : decode cX9_undo 26 = .ok (.iload_n 1, 1) := by decide +kernel
theorem dX9_undo_27 : decode cX9_undo 27 = .ok (.dup2, 1) := by decide +kernel
theorem dX9_undo_28 : decode cX9_undo 28 = .ok (.iaload, 1) := by decide +kernel
theorem dX9_undo_29 : decode cX9_undo 29 = .ok (.iconst 1, 1) := by decide +kernel
theorem dX9_undo_30 : decode cX9_undo 30 = .ok (.isub, 1) := by decide +kernel
theorem dX9_undo_31 : decode cX9_undo 31 = .ok (.iastore, 1) := by decide +kernel
theorem dX9_undo_32 : decode cX9_undo 32 = .ok (.aload_n 0, 1) := by decide +kernel
theorem dX9_undo_33 : decode cX9_undo 33 = .ok (.getfield 7, 3) := by decide +kernel
theorem dX9_undo_36 : decode cX9_undo 36 = .ok (.iload_n 1, 1) := by decide +kernel
theorem dX9_undo_37 : decode cX9_undo 37 = .ok (.iaload, 1) := by decide +kernel
theorem dX9_undo_38 : decode cX9_undo 38 = .ok (.ireturn, 1) := by decide +kernel
theorem dX9_noWall_0 : decode cX9_noWall 0 = .ok (.aload_n 0, 1) := by decide +kernel
theorem dX9_noWall_1 : decode cX9_noWall 1 = .ok (.iconst 0, 1) := by decide +kernel
theorem dX9_noWall_2 : decode cX9_noWall 2 = .ok (.putfield 118, 3) := by decide +kernel
theorem dX9_noWall_5 : decode cX9_noWall 5 = .ok (.aload_n 0, 1) := by decide +kernel
theorem dX9_noWall_6 : decode cX9_noWall 6 = .ok (.iconst 0, 1) := by decide +kernel
theorem dX9_noWall_7 : decode cX9_noWall 7 = .ok (.putfield 121, 3) := by decide +kernel
theorem dX9_noWall_10 : decode cX9_noWall 10 = .ok (.iconst 0, 1) := by decide +kernel
theorem dX9_noWall_11 : decode cX9_noWall 11 = .ok (.istore_n 1, 1) := by decide +kernel
theorem dX9_noWall_12 : decode cX9_noWall 12 = .ok (.iload_n 1, 1) := by decide +kernel
theorem dX9_noWall_13 : decode cX9_noWall 13 = .ok (.bipush 48, 2) := by decide +kernel
theorem dX9_noWall_15 : decode cX9_noWall 15 = .ok (.if_icmp .ge 16, 3) := by decide +kernel
theorem dX9_noWall_18 : decode cX9_noWall 18 = .ok (.aload_n 0, 1) := by decide +kernel
theorem dX9_noWall_19 : decode cX9_noWall 19 = .ok (.getfield 16, 3) := by decide +kernel
theorem dX9_noWall_22 : decode cX9_noWall 22 = .ok (.iload_n 1, 1) := by decide +kernel
theorem dX9_noWall_23 : decode cX9_noWall 23 = .ok (.iconst (-1), 1) := by decide +kernel
theorem dX9_noWall_24 : decode cX9_noWall 24 = .ok (.iastore, 1) := by decide +kernel
theorem dX9_noWall_25 : decode cX9_noWall 25 = .ok (.iinc 1 1, 3) := by decide +kernel
theorem dX9_noWall_28 : decode cX9_noWall 28 = .ok (.goto (-16), 3) := by decide +kernel
theorem dX9_noWall_31 : decode cX9_noWall 31 = .ok (.return_, 1) := by decide +kernel
theorem dX9_faultOfWall_0 : decode cX9_faultOfWall 0 = .ok (.iconst 0, 1) := by decide +kernel
theorem dX9_faultOfWall_1 : decode cX9_faultOfWall 1 = .ok (.istore_n 1, 1) := by decide +kernel
theorem dX9_faultOfWall_2 : decode cX9_faultOfWall 2 = .ok (.iconst 0, 1) := by decide +kernel
theorem dX9_faultOfWall_3 : decode cX9_faultOfWall 3 = .ok (.istore_n 2, 1) := by decide +kernel
theorem dX9_faultOfWall_4 : decode cX9_faultOfWall 4 = .ok (.bipush 8, 2) := by decide +kernel
theorem dX9_faultOfWall_6 : decode cX9_faultOfWall 6 = .ok (.istore_n 3, 1) := by decide +kernel
theorem dX9_faultOfWall_7 : decode cX9_faultOfWall 7 = .ok (.iconst 0, 1) := by decide +kernel
theorem dX9_faultOfWall_8 : decode cX9_faultOfWall 8 = .ok (.istore 4, 2) := by decide +kernel
theorem dX9_faultOfWall_10 : decode cX9_faultOfWall 10 = .ok (.iload 4, 2) := by decide +kernel
theorem dX9_faultOfWall_12 : decode cX9_faultOfWall 12 = .ok (.aload_n 0, 1) := by decide +kernel
theorem dX9_faultOfWall_13 : decode cX9_faultOfWall 13 = .ok (.getfield 7, 3) := by decide +kernel
theorem dX9_faultOfWall_16 : decode cX9_faultOfWall 16 = .ok (.iconst 0, 1) := by decide +kernel
theorem dX9_faultOfWall_17 : decode cX9_faultOfWall 17 = .ok (.iaload, 1) := by decide +kernel
theorem dX9_faultOfWall_18 : decode cX9_faultOfWall 18 = .ok (.if_icmp .ge 162, 3) := by decide +kernel
theorem dX9_faultOfWall_21 : decode cX9_faultOfWall 21 = .ok (.aload_n 0, 1) := by decide +kernel
theorem dX9_faultOfWall_22 : decode cX9_faultOfWall 22 = .ok (.getfield 13, 3) := by decide +kernel
theorem dX9_faultOfWall_25 : decode cX9_faultOfWall 25 = .ok (.iload 4, 2) := by decide +kernel
theorem dX9_faultOfWall_27 : decode cX9_faultOfWall 27 = .ok (.iaload, 1) := by decide +kernel
theorem dX9_faultOfWall_28 : decode cX9_faultOfWall 28 = .ok (.istore 5, 2) := by decide +kernel
theorem dX9_faultOfWall_30 : decode cX9_faultOfWall 30 = .ok (.iload 5, 2) := by decide +kernel
theorem dX9_faultOfWall_32 : decode cX9_faultOfWall 32 = .ok (.bipush 59, 2) := by decide +kernel
theorem dX9_faultOfWall_34 : decode cX9_faultOfWall 34 = .ok (.if_icmp .ne 7, 3) := by decide +kernel
theorem dX9_faultOfWall_37 : decode cX9_faultOfWall 37 = .ok (.iconst 1, 1) := by decide +kernel
theorem dX9_faultOfWall_38 : decode cX9_faultOfWall 38 = .ok (.goto 4, 3) := by decide +kernel
theorem dX9_faultOfWall_41 : decode cX9_faultOfWall 41 = .ok (.iconst 0, 1) := by decide +kernel
theorem dX9_faultOfWall_42 : decode cX9_faultOfWall 42 = .ok (.istore 6, 2) := by decide +kernel
theorem dX9_faultOfWall_44 : decode cX9_faultOfWall 44 = .ok (.iload_n 2, 1) := by decide +kernel
theorem dX9_faultOfWall_45 : decode cX9_faultOfWall 45 = .ok (.ifCond .eq 12, 3) := by decide +kernel
theorem dX9_faultOfWall_48 : decode cX9_faultOfWall 48 = .ok (.iload_n 1, 1) := by decide +kernel
theorem dX9_faultOfWall_49 : decode cX9_faultOfWall 49 = .ok (.ifCond .le 12, 3) := by decide +kernel
theorem dX9_faultOfWall_52 : decode cX9_faultOfWall 52 = .ok (.iload_n 2, 1) := by decide +kernel
theorem dX9_faultOfWall_53 : decode cX9_faultOfWall 53 = .ok (.iload_n 3, 1) := by decide +kernel
theorem dX9_faultOfWall_54 : decode cX9_faultOfWall 54 = .ok (.if_icmp .ge 7, 3) := by decide +kernel
theorem dX9_faultOfWall_57 : decode cX9_faultOfWall 57 = .ok (.iconst 1, 1) := by decide +kernel
theorem dX9_faultOfWall_58 : decode cX9_faultOfWall 58 = .ok (.goto 4, 3) := by decide +kernel
theorem dX9_faultOfWall_61 : decode cX9_faultOfWall 61 = .ok (.iconst 0, 1) := by decide +kernel
theorem dX9_faultOfWall_62 : decode cX9_faultOfWall 62 = .ok (.istore 7, 2) := by decide +kernel
theorem dX9_faultOfWall_64 : decode cX9_faultOfWall 64 = .ok (.iload 5, 2) := by decide +kernel
theorem dX9_faultOfWall_66 : decode cX9_faultOfWall 66 = .ok (.bipush 46, 2) := by decide +kernel
theorem dX9_faultOfWall_68 : decode cX9_faultOfWall 68 = .ok (.if_icmp .eq 15, 3) := by decide +kernel
theorem dX9_faultOfWall_71 : decode cX9_faultOfWall 71 = .ok (.iload 5, 2) := by decide +kernel
theorem dX9_faultOfWall_73 : decode cX9_faultOfWall 73 = .ok (.bipush 97, 2) := by decide +kernel
theorem dX9_faultOfWall_75 : decode cX9_faultOfWall 75 = .ok (.bipush 104, 2) := by decide +kernel
theorem dX9_faultOfWall_77 : decode cX9_faultOfWall 77 = .ok (.invokestatic 107, 3) := by decide +kernel
theorem dX9_faultOfWall_80 : decode cX9_faultOfWall 80 = .ok (.ifCond .eq 7, 3) := by decide +kernel
theorem dX9_faultOfWall_83 : decode cX9_faultOfWall 83 = .ok (.iconst 1, 1) := by decide +kernel
theorem dX9_faultOfWall_84 : decode cX9_faultOfWall 84 = .ok (.goto 4, 3) := by decide +kernel
theorem dX9_faultOfWall_87 : decode cX9_faultOfWall 87 = .ok (.iconst 0, 1) := by decide +kernel
theorem dX9_faultOfWall_88 : decode cX9_faultOfWall 88 = .ok (.istore 8, 2) := by decide +kernel
theorem dX9_faultOfWall_90 : decode cX9_faultOfWall 90 = .ok (.iload_n 1, 1) := by decide +kernel
theorem dX9_faultOfWall_91 : decode cX9_faultOfWall 91 = .ok (.iconst 5, 1) := by decide +kernel
theorem dX9_faultOfWall_92 : decode cX9_faultOfWall 92 = .ok (.if_icmp .eq 26, 3) := by decide +kernel
theorem dX9_faultOfWall_95 : decode cX9_faultOfWall 95 = .ok (.iload 6, 2) := by decide +kernel
theorem dX9_faultOfWall_97 : decode cX9_faultOfWall 97 = .ok (.ifCond .eq 11, 3) := by decide +kernel
theorem dX9_faultOfWall_100 : decode cX9_faultOfWall 100 = .ok (.iload 7, 2) := by decide +kernel
theorem dX9_faultOfWall_102 : decode cX9_faultOfWall 102 = .ok (.ifCond .eq 19, 3) := by decide +kernel
theorem dX9_faultOfWall_105 : decode cX9_faultOfWall 105 = .ok (.goto 13, 3) := by decide +kernel
theorem dX9_faultOfWall_108 : decode cX9_faultOfWall 108 = .ok (.iload 8, 2) := by decide +kernel
theorem dX9_faultOfWall_110 : decode cX9_faultOfWall 110 = .ok (.ifCond .eq 8, 3) := by decide +kernel
theorem dX9_faultOfWall_113 : decode cX9_faultOfWall 113 = .ok (.iload_n 2, 1) := by decide +kernel
theorem dX9_faultOfWall_114 : decode cX9_faultOfWall 114 = .ok (.iload_n 3, 1) := by decide +kernel
theorem dX9_faultOfWall_115 : decode cX9_faultOfWall 115 = .ok (.if_icmp .ne 6, 3) := by decide +kernel
theorem dX9_faultOfWall_118 : decode cX9_faultOfWall 118 = .ok (.iload 4, 2) := by decide +kernel
theorem dX9_faultOfWall_120 : decode cX9_faultOfWall 120 = .ok (.ireturn, 1) := by decide +kernel
theorem dX9_faultOfWall_121 : decode cX9_faultOfWall 121 = .ok (.iload 6, 2) := by decide +kernel
theorem dX9_faultOfWall_123 : decode cX9_faultOfWall 123 = .ok (.ifCond .eq 21, 3) := by decide +kernel
theorem dX9_faultOfWall_126 : decode cX9_faultOfWall 126 = .ok (.iload_n 1, 1) := by decide +kernel
theorem dX9_faultOfWall_127 : decode cX9_faultOfWall 127 = .ok (.ifCond .ne 7, 3) := by decide +kernel
theorem dX9_faultOfWall_130 : decode cX9_faultOfWall 130 = .ok (.iload_n 2, 1) := by decide +kernel
theorem dX9_faultOfWall_131 : decode cX9_faultOfWall 131 = .ok (.goto 4, 3) := by decide +kernel
theorem dX9_faultOfWall_134 : decode cX9_faultOfWall 134 = .ok (.iload_n 3, 1) := by decide +kernel
theorem dX9_faultOfWall_135 : decode cX9_faultOfWall 135 = .ok (.istore_n 3, 1) := by decide +kernel
theorem dX9_faultOfWall_136 : decode cX9_faultOfWall 136 = .ok (.iinc 1 1, 3) := by decide +kernel
theorem dX9_faultOfWall_139 : decode cX9_faultOfWall 139 = .ok (.iconst 0, 1) := by decide +kernel
theorem dX9_faultOfWall_140 : decode cX9_faultOfWall 140 = .ok (.istore_n 2, 1) := by decide +kernel
theorem dX9_faultOfWall_141 : decode cX9_faultOfWall 141 = .ok (.goto 33, 3) := by decide +kernel
theorem dX9_faultOfWall_144 : decode cX9_faultOfWall 144 = .ok (.aload_n 0, 1) := by decide +kernel
theorem dX9_faultOfWall_145 : decode cX9_faultOfWall 145 = .ok (.getfield 16, 3) := by decide +kernel
theorem dX9_faultOfWall_148 : decode cX9_faultOfWall 148 = .ok (.bipush 8, 2) := by decide +kernel
theorem dX9_faultOfWall_150 : decode cX9_faultOfWall 150 = .ok (.iload_n 1, 1) := by decide +kernel
theorem dX9_faultOfWall_151 : decode cX9_faultOfWall 151 = .ok (.imul, 1) := by decide +kernel
theorem dX9_faultOfWall_152 : decode cX9_faultOfWall 152 = .ok (.iload_n 2, 1) := by decide +kernel
theorem dX9_faultOfWall_153 : decode cX9_faultOfWall 153 = .ok (.iadd, 1) := by decide +kernel
theorem dX9_faultOfWall_154 : decode cX9_faultOfWall 154 = .ok (.iload 5, 2) := by decide +kernel
theorem dX9_faultOfWall_156 : decode cX9_faultOfWall 156 = .ok (.bipush 46, 2) := by decide +kernel
theorem dX9_faultOfWall_158 : decode cX9_faultOfWall 158 = .ok (.if_icmp .ne 7, 3) := by decide +kernel
theorem dX9_faultOfWall_161 : decode cX9_faultOfWall 161 = .ok (.iconst (-1), 1) := by decide +kernel
theorem dX9_faultOfWall_162 : decode cX9_faultOfWall 162 = .ok (.goto 8, 3) := by decide +kernel
theorem dX9_faultOfWall_165 : decode cX9_faultOfWall 165 = .ok (.iload 5, 2) := by decide +kernel
theorem dX9_faultOfWall_167 : decode cX9_faultOfWall 167 = .ok (.bipush 97, 2) := by decide +kernel
theorem dX9_faultOfWall_169 : decode cX9_faultOfWall 169 = .ok (.isub, 1) := by decide +kernel
theorem dX9_faultOfWall_170 : decode cX9_faultOfWall 170 = .ok (.iastore, 1) := by decide +kernel
theorem dX9_faultOfWall_171 : decode cX9_faultOfWall 171 = .ok (.iinc 2 1, 3) := by decide +kernel
theorem dX9_faultOfWall_174 : decode cX9_faultOfWall 174 = .ok (.iinc 4 1, 3) := by decide +kernel
theorem dX9_faultOfWall_177 : decode cX9_faultOfWall 177 = .ok (.goto (-167), 3) := by decide +kernel
theorem dX9_faultOfWall_180 : decode cX9_faultOfWall 180 = .ok (.aload_n 0, 1) := by decide +kernel
theorem dX9_faultOfWall_181 : decode cX9_faultOfWall 181 = .ok (.getfield 7, 3) := by decide +kernel
theorem dX9_faultOfWall_184 : decode cX9_faultOfWall 184 = .ok (.iconst 0, 1) := by decide +kernel
theorem dX9_faultOfWall_185 : decode cX9_faultOfWall 185 = .ok (.iaload, 1) := by decide +kernel
theorem dX9_faultOfWall_186 : decode cX9_faultOfWall 186 = .ok (.ifCond .le 23, 3) := by decide +kernel
theorem dX9_faultOfWall_189 : decode cX9_faultOfWall 189 = .ok (.iload_n 2, 1) := by decide +kernel
theorem dX9_faultOfWall_190 : decode cX9_faultOfWall 190 = .ok (.ifCond .eq 12, 3) := by decide +kernel
theorem dX9_faultOfWall_193 : decode cX9_faultOfWall 193 = .ok (.iload_n 1, 1) := by decide +kernel
theorem dX9_faultOfWall_194 : decode cX9_faultOfWall 194 = .ok (.ifCond .le 15, 3) := by decide +kernel
theorem dX9_faultOfWall_197 : decode cX9_faultOfWall 197 = .ok (.iload_n 2, 1) := by decide +kernel
theorem dX9_faultOfWall_198 : decode cX9_faultOfWall 198 = .ok (.iload_n 3, 1) := by decide +kernel
theorem dX9_faultOfWall_199 : decode cX9_faultOfWall 199 = .ok (.if_icmp .ge 10, 3) := by decide +kernel
theorem dX9_faultOfWall_202 : decode cX9_faultOfWall 202 = .ok (.aload_n 0, 1) := by decide +kernel
theorem dX9_faultOfWall_203 : decode cX9_faultOfWall 203 = .ok (.getfield 7, 3) := by decide +kernel
theorem dX9_faultOfWall_206 : decode cX9_faultOfWall 206 = .ok (.iconst 0, 1) := by decide +kernel
theorem dX9_faultOfWall_207 : decode cX9_faultOfWall 207 = .ok (.iaload, 1) := by decide +kernel
theorem dX9_faultOfWall_208 : decode cX9_faultOfWall 208 = .ok (.ireturn, 1) := by decide +kernel
theorem dX9_faultOfWall_209 : decode cX9_faultOfWall 209 = .ok (.aload_n 0, 1) := by decide +kernel
theorem dX9_faultOfWall_210 : decode cX9_faultOfWall 210 = .ok (.aload_n 0, 1) := by decide +kernel
theorem dX9_faultOfWall_211 : decode cX9_faultOfWall 211 = .ok (.getfield 7, 3) := by decide +kernel
theorem dX9_faultOfWall_214 : decode cX9_faultOfWall 214 = .ok (.iconst 0, 1) := by decide +kernel
theorem dX9_faultOfWall_215 : decode cX9_faultOfWall 215 = .ok (.iaload, 1) := by decide +kernel
theorem dX9_faultOfWall_216 : decode cX9_faultOfWall 216 = .ok (.ifCond .ne 7, 3) := by decide +kernel
theorem dX9_faultOfWall_219 : decode cX9_faultOfWall 219 = .ok (.iconst 0, 1) := by decide +kernel
theorem dX9_faultOfWall_220 : decode cX9_faultOfWall 220 = .ok (.goto 6, 3) := by decide +kernel
theorem dX9_faultOfWall_223 : decode cX9_faultOfWall 223 = .ok (.iload_n 1, 1) := by decide +kernel
theorem dX9_faultOfWall_224 : decode cX9_faultOfWall 224 = .ok (.iconst 1, 1) := by decide +kernel
theorem dX9_faultOfWall_225 : decode cX9_faultOfWall 225 = .ok (.iadd, 1) := by decide +kernel
theorem dX9_faultOfWall_226 : decode cX9_faultOfWall 226 = .ok (.putfield 118, 3) := by decide +kernel
theorem dX9_faultOfWall_229 : decode cX9_faultOfWall 229 = .ok (.aload_n 0, 1) := by decide +kernel
theorem dX9_faultOfWall_230 : decode cX9_faultOfWall 230 = .ok (.aload_n 0, 1) := by decide +kernel
theorem dX9_faultOfWall_231 : decode cX9_faultOfWall 231 = .ok (.getfield 7, 3) := by decide +kernel
theorem dX9_faultOfWall_234 : decode cX9_faultOfWall 234 = .ok (.iconst 0, 1) := by decide +kernel
theorem dX9_faultOfWall_235 : decode cX9_faultOfWall 235 = .ok (.iaload, 1) := by decide +kernel
theorem dX9_faultOfWall_236 : decode cX9_faultOfWall 236 = .ok (.ifCond .ne 7, 3) := by decide +kernel
theorem dX9_faultOfWall_239 : decode cX9_faultOfWall 239 = .ok (.iconst 0, 1) := by decide +kernel
theorem dX9_faultOfWall_240 : decode cX9_faultOfWall 240 = .ok (.goto 4, 3) := by decide +kernel
theorem dX9_faultOfWall_243 : decode cX9_faultOfWall 243 = .ok (.iload_n 2, 1) := by decide +kernel
theorem dX9_faultOfWall_244 : decode cX9_faultOfWall 244 = .ok (.putfield 121, 3) := by decide +kernel
theorem dX9_faultOfWall_247 : decode cX9_faultOfWall 247 = .ok (.iconst (-1), 1) := by decide +kernel
theorem dX9_faultOfWall_248 : decode cX9_faultOfWall 248 = .ok (.ireturn, 1) := by decide +kernel
theorem dX9_readsWall_0 : decode cX9_readsWall 0 = .ok (.aload_n 0, 1) := by decide +kernel
theorem dX9_readsWall_1 : decode cX9_readsWall 1 = .ok (.invokevirtual 124, 3) := by decide +kernel
theorem dX9_readsWall_4 : decode cX9_readsWall 4 = .ok (.aload_n 0, 1) := by decide +kernel
theorem dX9_readsWall_5 : decode cX9_readsWall 5 = .ok (.invokevirtual 127, 3) := by decide +kernel
theorem dX9_readsWall_8 : decode cX9_readsWall 8 = .ok (.istore_n 1, 1) := by decide +kernel
theorem dX9_readsWall_9 : decode cX9_readsWall 9 = .ok (.iload_n 1, 1) := by decide +kernel
theorem dX9_readsWall_10 : decode cX9_readsWall 10 = .ok (.iconst (-1), 1) := by decide +kernel
theorem dX9_readsWall_11 : decode cX9_readsWall 11 = .ok (.if_icmp .eq 7, 3) := by decide +kernel
theorem dX9_readsWall_14 : decode cX9_readsWall 14 = .ok (.aload_n 0, 1) := by decide +kernel
theorem dX9_readsWall_15 : decode cX9_readsWall 15 = .ok (.invokevirtual 124, 3) := by decide +kernel
theorem dX9_readsWall_18 : decode cX9_readsWall 18 = .ok (.iload_n 1, 1) := by decide +kernel
theorem dX9_readsWall_19 : decode cX9_readsWall 19 = .ok (.ireturn, 1) := by decide +kernel
theorem dX9_handByte_0 : decode cX9_handByte 0 = .ok (.iload_n 1, 1) := by decide +kernel
theorem dX9_handByte_1 : decode cX9_handByte 1 = .ok (.aload_n 0, 1) := by decide +kernel
theorem dX9_handByte_2 : decode cX9_handByte 2 = .ok (.getfield 7, 3) := by decide +kernel
theorem dX9_handByte_5 : decode cX9_handByte 5 = .ok (.iconst 1, 1) := by decide +kernel
theorem dX9_handByte_6 : decode cX9_handByte 6 = .ok (.iaload, 1) := by decide +kernel
theorem dX9_handByte_7 : decode cX9_handByte 7 = .ok (.if_icmp .ge 15, 3) := by decide +kernel
theorem dX9_handByte_10 : decode cX9_handByte 10 = .ok (.aload_n 0, 1) := by decide +kernel
theorem dX9_handByte_11 : decode cX9_handByte 11 = .ok (.getfield 13, 3) := by decide +kernel
theorem dX9_handByte_14 : decode cX9_handByte 14 = .ok (.bipush 44, 2) := by decide +kernel
theorem dX9_handByte_16 : decode cX9_handByte 16 = .ok (.iload_n 1, 1) := by decide +kernel
theorem dX9_handByte_17 : decode cX9_handByte 17 = .ok (.iadd, 1) := by decide +kernel
theorem dX9_handByte_18 : decode cX9_handByte 18 = .ok (.iaload, 1) := by decide +kernel
theorem dX9_handByte_19 : decode cX9_handByte 19 = .ok (.goto 4, 3) := by decide +kernel
theorem dX9_handByte_22 : decode cX9_handByte 22 = .ok (.iconst (-1), 1) := by decide +kernel
theorem dX9_handByte_23 : decode cX9_handByte 23 = .ok (.ireturn, 1) := by decide +kernel
theorem dX9_readsHand_0 : decode cX9_readsHand 0 = .ok (.aload_n 0, 1) := by decide +kernel
theorem dX9_readsHand_1 : decode cX9_readsHand 1 = .ok (.iload_n 2, 1) := by decide +kernel
theorem dX9_readsHand_2 : decode cX9_readsHand 2 = .ok (.invokevirtual 131, 3) := by decide +kernel
theorem dX9_readsHand_5 : decode cX9_readsHand 5 = .ok (.istore_n 3, 1) := by decide +kernel
theorem dX9_readsHand_6 : decode cX9_readsHand 6 = .ok (.iload_n 3, 1) := by decide +kernel
theorem dX9_readsHand_7 : decode cX9_readsHand 7 = .ok (.bipush 112, 2) := by decide +kernel
theorem dX9_readsHand_9 : decode cX9_readsHand 9 = .ok (.if_icmp .ne 7, 3) := by decide +kernel
theorem dX9_readsHand_12 : decode cX9_readsHand 12 = .ok (.iconst 0, 1) := by decide +kernel
theorem dX9_readsHand_13 : decode cX9_readsHand 13 = .ok (.goto 34, 3) := by decide +kernel
theorem dX9_readsHand_16 : decode cX9_readsHand 16 = .ok (.iload_n 3, 1) := by decide +kernel
theorem dX9_readsHand_17 : decode cX9_readsHand 17 = .ok (.bipush 116, 2) := by decide +kernel
theorem dX9_readsHand_19 : decode cX9_readsHand 19 = .ok (.if_icmp .ne 7, 3) := by decide +kernel
theorem dX9_readsHand_22 : decode cX9_readsHand 22 = .ok (.iconst 1, 1) := by decide +kernel
theorem dX9_readsHand_23 : decode cX9_readsHand 23 = .ok (.goto 24, 3) := by decide +kernel
theorem dX9_readsHand_26 : decode cX9_readsHand 26 = .ok (.iload_n 3, 1) := by decide +kernel
theorem dX9_readsHand_27 : decode cX9_readsHand 27 = .ok (.bipush 108, 2) := by decide +kernel
theorem dX9_readsHand_29 : decode cX9_readsHand 29 = .ok (.if_icmp .ne 7, 3) := by decide +kernel
theorem dX9_readsHand_32 : decode cX9_readsHand 32 = .ok (.iconst 2, 1) := by decide +kernel
theorem dX9_readsHand_33 : decode cX9_readsHand 33 = .ok (.goto 14, 3) := by decide +kernel
theorem dX9_readsHand_36 : decode cX9_readsHand 36 = .ok (.iload_n 3, 1) := by decide +kernel
theorem dX9_readsHand_37 : decode cX9_readsHand 37 = .ok (.bipush 115, 2) := by decide +kernel
theorem dX9_readsHand_39 : decode cX9_readsHand 39 = .ok (.if_icmp .ne 7, 3) := by decide +kernel
theorem dX9_readsHand_42 : decode cX9_readsHand 42 = .ok (.iconst 3, 1) := by decide +kernel
theorem dX9_readsHand_43 : decode cX9_readsHand 43 = .ok (.goto 4, 3) := by decide +kernel
theorem dX9_readsHand_46 : decode cX9_readsHand 46 = .ok (.iconst (-1), 1) := by decide +kernel
theorem dX9_readsHand_47 : decode cX9_readsHand 47 = .ok (.istore 4, 2) := by decide +kernel
theorem dX9_readsHand_49 : decode cX9_readsHand 49 = .ok (.aload_n 0, 1) := by decide +kernel
theorem dX9_readsHand_50 : decode cX9_readsHand 50 = .ok (.iload_n 2, 1) := by decide +kernel
theorem dX9_readsHand_51 : decode cX9_readsHand 51 = .ok (.iconst 1, 1) := by decide +kernel
theorem dX9_readsHand_52 : decode cX9_readsHand 52 = .ok (.iadd, 1) := by decide +kernel
theorem dX9_readsHand_53 : decode cX9_readsHand 53 = .ok (.invokevirtual 131, 3) := by decide +kernel
theorem dX9_readsHand_56 : decode cX9_readsHand 56 = .ok (.istore 5, 2) := by decide +kernel
theorem dX9_readsHand_58 : decode cX9_readsHand 58 = .ok (.iload_n 1, 1) := by decide +kernel
theorem dX9_readsHand_59 : decode cX9_readsHand 59 = .ok (.bipush 8, 2) := by decide +kernel
theorem dX9_readsHand_61 : decode cX9_readsHand 61 = .ok (.if_icmp .eq 9, 3) := by decide +kernel
theorem dX9_readsHand_64 : decode cX9_readsHand 64 = .ok (.iload 4, 2) := by decide +kernel
theorem dX9_readsHand_66 : decode cX9_readsHand 66 = .ok (.iconst (-1), 1) := by decide +kernel
theorem dX9_readsHand_67 : decode cX9_readsHand 67 = .ok (.if_icmp .ne 5, 3) := by decide +kernel
theorem dX9_readsHand_70 : decode cX9_readsHand 70 = .ok (.iconst 0, 1) := by decide +kernel
theorem dX9_readsHand_71 : decode cX9_readsHand 71 = .ok (.ireturn, 1) := by decide +kernel
theorem dX9_readsHand_72 : decode cX9_readsHand 72 = .ok (.iload 5, 2) := by decide +kernel
theorem dX9_readsHand_74 : decode cX9_readsHand 74 = .ok (.bipush 49, 2) := by decide +kernel
theorem dX9_readsHand_76 : decode cX9_readsHand 76 = .ok (.bipush 57, 2) := by decide +kernel
theorem dX9_readsHand_78 : decode cX9_readsHand 78 = .ok (.invokestatic 107, 3) := by decide +kernel
theorem dX9_readsHand_81 : decode cX9_readsHand 81 = .ok (.ifCond .ne 5, 3) := by decide +kernel
theorem dX9_readsHand_84 : decode cX9_readsHand 84 = .ok (.iconst 1, 1) := by decide +kernel
theorem dX9_readsHand_85 : decode cX9_readsHand 85 = .ok (.ireturn, 1) := by decide +kernel
theorem dX9_readsHand_86 : decode cX9_readsHand 86 = .ok (.aload_n 0, 1) := by decide +kernel
theorem dX9_readsHand_87 : decode cX9_readsHand 87 = .ok (.getfield 19, 3) := by decide +kernel
theorem dX9_readsHand_90 : decode cX9_readsHand 90 = .ok (.iload_n 1, 1) := by decide +kernel
theorem dX9_readsHand_91 : decode cX9_readsHand 91 = .ok (.iload 4, 2) := by decide +kernel
theorem dX9_readsHand_93 : decode cX9_readsHand 93 = .ok (.iastore, 1) := by decide +kernel
theorem dX9_readsHand_94 : decode cX9_readsHand 94 = .ok (.aload_n 0, 1) := by decide +kernel
theorem dX9_readsHand_95 : decode cX9_readsHand 95 = .ok (.getfield 22, 3) := by decide +kernel
theorem dX9_readsHand_98 : decode cX9_readsHand 98 = .ok (.iload_n 1, 1) := by decide +kernel
theorem dX9_readsHand_99 : decode cX9_readsHand 99 = .ok (.iload 5, 2) := by decide +kernel
theorem dX9_readsHand_101 : decode cX9_readsHand 101 = .ok (.bipush 48, 2) := by decide +kernel
theorem dX9_readsHand_103 : decode cX9_readsHand 103 = .ok (.isub, 1) := by decide +kernel
theorem dX9_readsHand_104 : decode cX9_readsHand 104 = .ok (.iastore, 1) := by decide +kernel
theorem dX9_readsHand_105 : decode cX9_readsHand 105 = .ok (.iconst 2, 1) := by decide +kernel
theorem dX9_readsHand_106 : decode cX9_readsHand 106 = .ok (.ireturn, 1) := by decide +kernel
theorem dX9_readsHands_0 : decode cX9_readsHands 0 = .ok (.iconst 0, 1) := by decide +kernel
theorem dX9_readsHands_1 : decode cX9_readsHands 1 = .ok (.istore_n 1, 1) := by decide +kernel
theorem dX9_readsHands_2 : decode cX9_readsHands 2 = .ok (.iconst 0, 1) := by decide +kernel
theorem dX9_readsHands_3 : decode cX9_readsHands 3 = .ok (.istore_n 2, 1) := by decide +kernel
theorem dX9_readsHands_4 : decode cX9_readsHands 4 = .ok (.aload_n 0, 1) := by decide +kernel
theorem dX9_readsHands_5 : decode cX9_readsHands 5 = .ok (.iconst 0, 1) := by decide +kernel
theorem dX9_readsHands_6 : decode cX9_readsHands 6 = .ok (.putfield 135, 3) := by decide +kernel
theorem dX9_readsHands_9 : decode cX9_readsHands 9 = .ok (.iload_n 2, 1) := by decide +kernel
theorem dX9_readsHands_10 : decode cX9_readsHands 10 = .ok (.aload_n 0, 1) := by decide +kernel
theorem dX9_readsHands_11 : decode cX9_readsHands 11 = .ok (.getfield 7, 3) := by decide +kernel
theorem dX9_readsHands_14 : decode cX9_readsHands 14 = .ok (.iconst 1, 1) := by decide +kernel
theorem dX9_readsHands_15 : decode cX9_readsHands 15 = .ok (.iaload, 1) := by decide +kernel
theorem dX9_readsHands_16 : decode cX9_readsHands 16 = .ok (.if_icmp .lt 7, 3) := by decide +kernel
theorem dX9_readsHands_19 : decode cX9_readsHands 19 = .ok (.iload_n 2, 1) := by decide +kernel
theorem dX9_readsHands_20 : decode cX9_readsHands 20 = .ok (.ifCond .le 60, 3) := by decide +kernel
theorem dX9_readsHands_23 : decode cX9_readsHands 23 = .ok (.aload_n 0, 1) := by decide +kernel
theorem dX9_readsHands_24 : decode cX9_readsHands 24 = .ok (.iload_n 1, 1) := by decide +kernel
theorem dX9_readsHands_25 : decode cX9_readsHands 25 = .ok (.iload_n 2, 1) := by decide +kernel
theorem dX9_readsHands_26 : decode cX9_readsHands 26 = .ok (.invokevirtual 138, 3) := by decide +kernel
theorem dX9_readsHands_29 : decode cX9_readsHands 29 = .ok (.istore_n 3, 1) := by decide +kernel
theorem dX9_readsHands_30 : decode cX9_readsHands 30 = .ok (.iload_n 3, 1) := by decide +kernel
theorem dX9_readsHands_31 : decode cX9_readsHands 31 = .ok (.iconst 2, 1) := by decide +kernel
theorem dX9_readsHands_32 : decode cX9_readsHands 32 = .ok (.if_icmp .ge 7, 3) := by decide +kernel
theorem dX9_readsHands_35 : decode cX9_readsHands 35 = .ok (.iload_n 2, 1) := by decide +kernel
theorem dX9_readsHands_36 : decode cX9_readsHands 36 = .ok (.iload_n 3, 1) := by decide +kernel
theorem dX9_readsHands_37 : decode cX9_readsHands 37 = .ok (.iadd, 1) := by decide +kernel
theorem dX9_readsHands_38 : decode cX9_readsHands 38 = .ok (.ireturn, 1) := by decide +kernel
theorem dX9_readsHands_39 : decode cX9_readsHands 39 = .ok (.iinc 1 1, 3) := by decide +kernel
theorem dX9_readsHands_42 : decode cX9_readsHands 42 = .ok (.iinc 2 2, 3) := by decide +kernel
theorem dX9_readsHands_45 : decode cX9_readsHands 45 = .ok (.iload_n 2, 1) := by decide +kernel
theorem dX9_readsHands_46 : decode cX9_readsHands 46 = .ok (.aload_n 0, 1) := by decide +kernel
theorem dX9_readsHands_47 : decode cX9_readsHands 47 = .ok (.getfield 7, 3) := by decide +kernel
theorem dX9_readsHands_50 : decode cX9_readsHands 50 = .ok (.iconst 1, 1) := by decide +kernel
theorem dX9_readsHands_51 : decode cX9_readsHands 51 = .ok (.iaload, 1) := by decide +kernel
theorem dX9_readsHands_52 : decode cX9_readsHands 52 = .ok (.if_icmp .ne 10, 3) := by decide +kernel
theorem dX9_readsHands_55 : decode cX9_readsHands 55 = .ok (.aload_n 0, 1) := by decide +kernel
theorem dX9_readsHands_56 : decode cX9_readsHands 56 = .ok (.iload_n 1, 1) := by decide +kernel
theorem dX9_readsHands_57 : decode cX9_readsHands 57 = .ok (.putfield 135, 3) := by decide +kernel
theorem dX9_readsHands_60 : decode cX9_readsHands 60 = .ok (.iconst (-1), 1) := by decide +kernel
theorem dX9_readsHands_61 : decode cX9_readsHands 61 = .ok (.ireturn, 1) := by decide +kernel
theorem dX9_readsHands_62 : decode cX9_readsHands 62 = .ok (.aload_n 0, 1) := by decide +kernel
theorem dX9_readsHands_63 : decode cX9_readsHands 63 = .ok (.iload_n 2, 1) := by decide +kernel
theorem dX9_readsHands_64 : decode cX9_readsHands 64 = .ok (.invokevirtual 131, 3) := by decide +kernel
theorem dX9_readsHands_67 : decode cX9_readsHands 67 = .ok (.bipush 59, 2) := by decide +kernel
theorem dX9_readsHands_69 : decode cX9_readsHands 69 = .ok (.if_icmp .eq 5, 3) := by decide +kernel
theorem dX9_readsHands_72 : decode cX9_readsHands 72 = .ok (.iload_n 2, 1) := by decide +kernel
theorem dX9_readsHands_73 : decode cX9_readsHands 73 = .ok (.ireturn, 1) := by decide +kernel
theorem dX9_readsHands_74 : decode cX9_readsHands 74 = .ok (.iinc 2 1, 3) := by decide +kernel
theorem dX9_readsHands_77 : decode cX9_readsHands 77 = .ok (.goto (-68), 3) := by decide +kernel
theorem dX9_readsHands_80 : decode cX9_readsHands 80 = .ok (.iconst (-1), 1) := by decide +kernel
theorem dX9_readsHands_81 : decode cX9_readsHands 81 = .ok (.ireturn, 1) := by decide +kernel
theorem dX9_faultOf_0 : decode cX9_faultOf 0 = .ok (.aload_n 0, 1) := by decide +kernel
theorem dX9_faultOf_1 : decode cX9_faultOf 1 = .ok (.invokevirtual 142, 3) := by decide +kernel
theorem dX9_faultOf_4 : decode cX9_faultOf 4 = .ok (.istore_n 2, 1) := by decide +kernel
theorem dX9_faultOf_5 : decode cX9_faultOf 5 = .ok (.aload_n 0, 1) := by decide +kernel
theorem dX9_faultOf_6 : decode cX9_faultOf 6 = .ok (.invokevirtual 145, 3) := by decide +kernel
theorem dX9_faultOf_9 : decode cX9_faultOf 9 = .ok (.istore_n 3, 1) := by decide +kernel
theorem dX9_faultOf_10 : decode cX9_faultOf 10 = .ok (.iload_n 1, 1) := by decide +kernel
theorem dX9_faultOf_11 : decode cX9_faultOf 11 = .ok (.ifCond .ne 7, 3) := by decide +kernel
theorem dX9_faultOf_14 : decode cX9_faultOf 14 = .ok (.iload_n 2, 1) := by decide +kernel
theorem dX9_faultOf_15 : decode cX9_faultOf 15 = .ok (.goto 4, 3) := by decide +kernel
theorem dX9_faultOf_18 : decode cX9_faultOf 18 = .ok (.iload_n 3, 1) := by decide +kernel
theorem dX9_faultOf_19 : decode cX9_faultOf 19 = .ok (.ireturn, 1) := by decide +kernel
theorem dX9_reads_0 : decode cX9_reads 0 = .ok (.aload_n 0, 1) := by decide +kernel
theorem dX9_reads_1 : decode cX9_reads 1 = .ok (.iconst 0, 1) := by decide +kernel
theorem dX9_reads_2 : decode cX9_reads 2 = .ok (.invokevirtual 148, 3) := by decide +kernel
theorem dX9_reads_5 : decode cX9_reads 5 = .ok (.istore_n 1, 1) := by decide +kernel
theorem dX9_reads_6 : decode cX9_reads 6 = .ok (.return_, 1) := by decide +kernel
theorem dX9_fault_0 : decode cX9_fault 0 = .ok (.iload_n 1, 1) := by decide +kernel
theorem dX9_fault_1 : decode cX9_fault 1 = .ok (.invokestatic 115, 3) := by decide +kernel
theorem dX9_fault_4 : decode cX9_fault 4 = .ok (.ifCond .eq 11, 3) := by decide +kernel
theorem dX9_fault_7 : decode cX9_fault 7 = .ok (.aload_n 0, 1) := by decide +kernel
theorem dX9_fault_8 : decode cX9_fault 8 = .ok (.iload_n 1, 1) := by decide +kernel
theorem dX9_fault_9 : decode cX9_fault 9 = .ok (.invokevirtual 148, 3) := by decide +kernel
theorem dX9_fault_12 : decode cX9_fault 12 = .ok (.goto 5, 3) := by decide +kernel
theorem dX9_fault_15 : decode cX9_fault 15 = .ok (.bipush (-2), 2) := by decide +kernel
theorem dX9_fault_17 : decode cX9_fault 17 = .ok (.ireturn, 1) := by decide +kernel
theorem dX9_isHand_0 : decode cX9_isHand 0 = .ok (.aload_n 0, 1) := by decide +kernel
theorem dX9_isHand_1 : decode cX9_isHand 1 = .ok (.invokevirtual 151, 3) := by decide +kernel
theorem dX9_isHand_4 : decode cX9_isHand 4 = .ok (.iload_n 1, 1) := by decide +kernel
theorem dX9_isHand_5 : decode cX9_isHand 5 = .ok (.iconst 0, 1) := by decide +kernel
theorem dX9_isHand_6 : decode cX9_isHand 6 = .ok (.aload_n 0, 1) := by decide +kernel
theorem dX9_isHand_7 : decode cX9_isHand 7 = .ok (.getfield 135, 3) := by decide +kernel
theorem dX9_isHand_10 : decode cX9_isHand 10 = .ok (.iconst 1, 1) := by decide +kernel
theorem dX9_isHand_11 : decode cX9_isHand 11 = .ok (.isub, 1) := by decide +kernel
theorem dX9_isHand_12 : decode cX9_isHand 12 = .ok (.invokestatic 107, 3) := by decide +kernel
theorem dX9_isHand_15 : decode cX9_isHand 15 = .ok (.ireturn, 1) := by decide +kernel
theorem dX9_stoneOf_0 : decode cX9_stoneOf 0 = .ok (.aload_n 0, 1) := by decide +kernel
theorem dX9_stoneOf_1 : decode cX9_stoneOf 1 = .ok (.invokevirtual 151, 3) := by decide +kernel
theorem dX9_stoneOf_4 : decode cX9_stoneOf 4 = .ok (.aload_n 0, 1) := by decide +kernel
theorem dX9_stoneOf_5 : decode cX9_stoneOf 5 = .ok (.getfield 16, 3) := by decide +kernel
theorem dX9_stoneOf_8 : decode cX9_stoneOf 8 = .ok (.iload_n 1, 1) := by decide +kernel
theorem dX9_stoneOf_9 : decode cX9_stoneOf 9 = .ok (.iaload, 1) := by decide +kernel
theorem dX9_stoneOf_10 : decode cX9_stoneOf 10 = .ok (.ireturn, 1) := by decide +kernel
theorem dX9_stone_0 : decode cX9_stone 0 = .ok (.iload_n 1, 1) := by decide +kernel
theorem dX9_stone_1 : decode cX9_stone 1 = .ok (.iload_n 2, 1) := by decide +kernel
theorem dX9_stone_2 : decode cX9_stone 2 = .ok (.invokestatic 154, 3) := by decide +kernel
theorem dX9_stone_5 : decode cX9_stone 5 = .ok (.ifCond .eq 16, 3) := by decide +kernel
theorem dX9_stone_8 : decode cX9_stone 8 = .ok (.aload_n 0, 1) := by decide +kernel
theorem dX9_stone_9 : decode cX9_stone 9 = .ok (.bipush 8, 2) := by decide +kernel
theorem dX9_stone_11 : decode cX9_stone 11 = .ok (.iload_n 1, 1) := by decide +kernel
theorem dX9_stone_12 : decode cX9_stone 12 = .ok (.imul, 1) := by decide +kernel
theorem dX9_stone_13 : decode cX9_stone 13 = .ok (.iload_n 2, 1) := by decide +kernel
theorem dX9_stone_14 : decode cX9_stone 14 = .ok (.iadd, 1) := by decide +kernel
theorem dX9_stone_15 : decode cX9_stone 15 = .ok (.invokevirtual 158, 3) := by decide +kernel
theorem dX9_stone_18 : decode cX9_stone 18 = .ok (.goto 5, 3) := by decide +kernel
theorem dX9_stone_21 : decode cX9_stone 21 = .ok (.bipush (-2), 2) := by decide +kernel
theorem dX9_stone_23 : decode cX9_stone 23 = .ok (.ireturn, 1) := by decide +kernel
theorem dX9_handOf_0 : decode cX9_handOf 0 = .ok (.iload_n 2, 1) := by decide +kernel
theorem dX9_handOf_1 : decode cX9_handOf 1 = .ok (.ifCond .ne 12, 3) := by decide +kernel
theorem dX9_handOf_4 : decode cX9_handOf 4 = .ok (.aload_n 0, 1) := by decide +kernel
theorem dX9_handOf_5 : decode cX9_handOf 5 = .ok (.getfield 19, 3) := by decide +kernel
theorem dX9_handOf_8 : decode cX9_handOf 8 = .ok (.iload_n 1, 1) := by decide +kernel
theorem dX9_handOf_9 : decode cX9_handOf 9 = .ok (.iaload, 1) := by decide +kernel
theorem dX9_handOf_10 : decode cX9_handOf 10 = .ok (.goto 9, 3) := by decide +kernel
theorem dX9_handOf_13 : decode cX9_handOf 13 = .ok (.aload_n 0, 1) := by decide +kernel
theorem dX9_handOf_14 : decode cX9_handOf 14 = .ok (.getfield 22, 3) := by decide +kernel
theorem dX9_handOf_17 : decode cX9_handOf 17 = .ok (.iload_n 1, 1) := by decide +kernel
theorem dX9_handOf_18 : decode cX9_handOf 18 = .ok (.iaload, 1) := by decide +kernel
theorem dX9_handOf_19 : decode cX9_handOf 19 = .ok (.ireturn, 1) := by decide +kernel
theorem dX9_hand_0 : decode cX9_hand 0 = .ok (.aload_n 0, 1) := by decide +kernel
theorem dX9_hand_1 : decode cX9_hand 1 = .ok (.iload_n 1, 1) := by decide +kernel
theorem dX9_hand_2 : decode cX9_hand 2 = .ok (.invokevirtual 161, 3) := by decide +kernel
theorem dX9_hand_5 : decode cX9_hand 5 = .ok (.ifCond .eq 21, 3) := by decide +kernel
theorem dX9_hand_8 : decode cX9_hand 8 = .ok (.iload_n 2, 1) := by decide +kernel
theorem dX9_hand_9 : decode cX9_hand 9 = .ok (.iconst 0, 1) := by decide +kernel
theorem dX9_hand_10 : decode cX9_hand 10 = .ok (.iconst 1, 1) := by decide +kernel
theorem dX9_hand_11 : decode cX9_hand 11 = .ok (.invokestatic 107, 3) := by decide +kernel
theorem dX9_hand_14 : decode cX9_hand 14 = .ok (.ifCond .eq 12, 3) := by decide +kernel
theorem dX9_hand_17 : decode cX9_hand 17 = .ok (.aload_n 0, 1) := by decide +kernel
theorem dX9_hand_18 : decode cX9_hand 18 = .ok (.iload_n 1, 1) := by decide +kernel
theorem dX9_hand_19 : decode cX9_hand 19 = .ok (.iload_n 2, 1) := by decide +kernel
theorem dX9_hand_20 : decode cX9_hand 20 = .ok (.invokevirtual 164, 3) := by decide +kernel
theorem dX9_hand_23 : decode cX9_hand 23 = .ok (.goto 5, 3) := by decide +kernel
theorem dX9_hand_26 : decode cX9_hand 26 = .ok (.bipush (-2), 2) := by decide +kernel
theorem dX9_hand_28 : decode cX9_hand 28 = .ok (.ireturn, 1) := by decide +kernel
theorem dX9_jump_0 : decode cX9_jump 0 = .ok (.iload_n 1, 1) := by decide +kernel
theorem dX9_jump_1 : decode cX9_jump 1 = .ok (.iconst 1, 1) := by decide +kernel
theorem dX9_jump_2 : decode cX9_jump 2 = .ok (.iconst 5, 1) := by decide +kernel
theorem dX9_jump_3 : decode cX9_jump 3 = .ok (.invokestatic 107, 3) := by decide +kernel
theorem dX9_jump_6 : decode cX9_jump 6 = .ok (.ifCond .ne 6, 3) := by decide +kernel
theorem dX9_jump_9 : decode cX9_jump 9 = .ok (.bipush (-2), 2) := by decide +kernel
theorem dX9_jump_11 : decode cX9_jump 11 = .ok (.ireturn, 1) := by decide +kernel
theorem dX9_jump_12 : decode cX9_jump 12 = .ok (.aload_n 0, 1) := by decide +kernel
theorem dX9_jump_13 : decode cX9_jump 13 = .ok (.getfield 101, 3) := by decide +kernel
theorem dX9_jump_16 : decode cX9_jump 16 = .ok (.istore_n 2, 1) := by decide +kernel
theorem dX9_jump_17 : decode cX9_jump 17 = .ok (.aload_n 0, 1) := by decide +kernel
theorem dX9_jump_18 : decode cX9_jump 18 = .ok (.iload_n 1, 1) := by decide +kernel
theorem dX9_jump_19 : decode cX9_jump 19 = .ok (.putfield 101, 3) := by decide +kernel
theorem dX9_jump_22 : decode cX9_jump 22 = .ok (.iload_n 2, 1) := by decide +kernel
theorem dX9_jump_23 : decode cX9_jump 23 = .ok (.ireturn, 1) := by decide +kernel
theorem dX9_frost_0 : decode cX9_frost 0 = .ok (.iload_n 1, 1) := by decide +kernel
theorem dX9_frost_1 : decode cX9_frost 1 = .ok (.invokestatic 167, 3) := by decide +kernel
theorem dX9_frost_4 : decode cX9_frost 4 = .ok (.ifCond .eq 13, 3) := by decide +kernel
theorem dX9_frost_7 : decode cX9_frost 7 = .ok (.iload_n 2, 1) := by decide +kernel
theorem dX9_frost_8 : decode cX9_frost 8 = .ok (.iconst 1, 1) := by decide +kernel
theorem dX9_frost_9 : decode cX9_frost 9 = .ok (.bipush 15, 2) := by decide +kernel
theorem dX9_frost_11 : decode cX9_frost 11 = .ok (.invokestatic 107, 3) := by decide +kernel
theorem dX9_frost_14 : decode cX9_frost 14 = .ok (.ifCond .ne 6, 3) := by decide +kernel
theorem dX9_frost_17 : decode cX9_frost 17 = .ok (.bipush (-2), 2) := by decide +kernel
theorem dX9_frost_19 : decode cX9_frost 19 = .ok (.ireturn, 1) := by decide +kernel
theorem dX9_frost_20 : decode cX9_frost 20 = .ok (.aload_n 0, 1) := by decide +kernel
theorem dX9_frost_21 : decode cX9_frost 21 = .ok (.getfield 170, 3) := by decide +kernel
theorem dX9_frost_24 : decode cX9_frost 24 = .ok (.bipush 6, 2) := by decide +kernel
theorem dX9_frost_26 : decode cX9_frost 26 = .ok (.if_icmp .ne 6, 3) := by decide +kernel
theorem dX9_frost_29 : decode cX9_frost 29 = .ok (.bipush (-4), 2) := by decide +kernel
theorem dX9_frost_31 : decode cX9_frost 31 = .ok (.ireturn, 1) := by decide +kernel
theorem dX9_frost_32 : decode cX9_frost 32 = .ok (.aload_n 0, 1) := by decide +kernel
theorem dX9_frost_33 : decode cX9_frost 33 = .ok (.getfield 25, 3) := by decide +kernel
theorem dX9_frost_36 : decode cX9_frost 36 = .ok (.aload_n 0, 1) := by decide +kernel
theorem dX9_frost_37 : decode cX9_frost 37 = .ok (.getfield 170, 3) := by decide +kernel
theorem dX9_frost_40 : decode cX9_frost 40 = .ok (.iload_n 1, 1) := by decide +kernel
theorem dX9_frost_41 : decode cX9_frost 41 = .ok (.iastore, 1) := by decide +kernel
theorem dX9_frost_42 : decode cX9_frost 42 = .ok (.aload_n 0, 1) := by decide +kernel
theorem dX9_frost_43 : decode cX9_frost 43 = .ok (.getfield 28, 3) := by decide +kernel
theorem dX9_frost_46 : decode cX9_frost 46 = .ok (.aload_n 0, 1) := by decide +kernel
theorem dX9_frost_47 : decode cX9_frost 47 = .ok (.getfield 170, 3) := by decide +kernel
theorem dX9_frost_50 : decode cX9_frost 50 = .ok (.iload_n 2, 1) := by decide +kernel
theorem dX9_frost_51 : decode cX9_frost 51 = .ok (.iastore, 1) := by decide +kernel
theorem dX9_frost_52 : decode cX9_frost 52 = .ok (.aload_n 0, 1) := by decide +kernel
theorem dX9_frost_53 : decode cX9_frost 53 = .ok (.dup, 1) := by decide +kernel
theorem dX9_frost_54 : decode cX9_frost 54 = .ok (.getfield 170, 3) := by decide +kernel
theorem dX9_frost_57 : decode cX9_frost 57 = .ok (.iconst 1, 1) := by decide +kernel
theorem dX9_frost_58 : decode cX9_frost 58 = .ok (.iadd, 1) := by decide +kernel
theorem dX9_frost_59 : decode cX9_frost 59 = .ok (.putfield 170, 3) := by decide +kernel
theorem dX9_frost_62 : decode cX9_frost 62 = .ok (.aload_n 0, 1) := by decide +kernel
theorem dX9_frost_63 : decode cX9_frost 63 = .ok (.getfield 170, 3) := by decide +kernel
theorem dX9_frost_66 : decode cX9_frost 66 = .ok (.ireturn, 1) := by decide +kernel
theorem dX9_gapping_0 : decode cX9_gapping 0 = .ok (.iload_n 1, 1) := by decide +kernel
theorem dX9_gapping_1 : decode cX9_gapping 1 = .ok (.invokestatic 167, 3) := by decide +kernel
theorem dX9_gapping_4 : decode cX9_gapping 4 = .ok (.ifCond .eq 17, 3) := by decide +kernel
theorem dX9_gapping_7 : decode cX9_gapping 7 = .ok (.iload_n 2, 1) := by decide +kernel
theorem dX9_gapping_8 : decode cX9_gapping 8 = .ok (.invokestatic 111, 3) := by decide +kernel
theorem dX9_gapping_11 : decode cX9_gapping 11 = .ok (.ifCond .eq 10, 3) := by decide +kernel
theorem dX9_gapping_14 : decode cX9_gapping 14 = .ok (.iload_n 3, 1) := by decide +kernel
theorem dX9_gapping_15 : decode cX9_gapping 15 = .ok (.invokestatic 111, 3) := by decide +kernel
theorem dX9_gapping_18 : decode cX9_gapping 18 = .ok (.ifCond .ne 6, 3) := by decide +kernel
theorem dX9_gapping_21 : decode cX9_gapping 21 = .ok (.bipush (-2), 2) := by decide +kernel
theorem dX9_gapping_23 : decode cX9_gapping 23 = .ok (.ireturn, 1) := by decide +kernel
theorem dX9_gapping_24 : decode cX9_gapping 24 = .ok (.aload_n 0, 1) := by decide +kernel
theorem dX9_gapping_25 : decode cX9_gapping 25 = .ok (.getfield 173, 3) := by decide +kernel
theorem dX9_gapping_28 : decode cX9_gapping 28 = .ok (.bipush 6, 2) := by decide +kernel
theorem dX9_gapping_30 : decode cX9_gapping 30 = .ok (.if_icmp .ne 6, 3) := by decide +kernel
theorem dX9_gapping_33 : decode cX9_gapping 33 = .ok (.bipush (-4), 2) := by decide +kernel
theorem dX9_gapping_35 : decode cX9_gapping 35 = .ok (.ireturn, 1) := by decide +kernel
theorem dX9_gapping_36 : decode cX9_gapping 36 = .ok (.aload_n 0, 1) := by decide +kernel
theorem dX9_gapping_37 : decode cX9_gapping 37 = .ok (.getfield 31, 3) := by decide +kernel
theorem dX9_gapping_40 : decode cX9_gapping 40 = .ok (.aload_n 0, 1) := by decide +kernel
theorem dX9_gapping_41 : decode cX9_gapping 41 = .ok (.getfield 173, 3) := by decide +kernel
theorem dX9_gapping_44 : decode cX9_gapping 44 = .ok (.iload_n 1, 1) := by decide +kernel
theorem dX9_gapping_45 : decode cX9_gapping 45 = .ok (.iastore, 1) := by decide +kernel
theorem dX9_gapping_46 : decode cX9_gapping 46 = .ok (.aload_n 0, 1) := by decide +kernel
theorem dX9_gapping_47 : decode cX9_gapping 47 = .ok (.getfield 34, 3) := by decide +kernel
theorem dX9_gapping_50 : decode cX9_gapping 50 = .ok (.aload_n 0, 1) := by decide +kernel
theorem dX9_gapping_51 : decode cX9_gapping 51 = .ok (.getfield 173, 3) := by decide +kernel
theorem dX9_gapping_54 : decode cX9_gapping 54 = .ok (.iload_n 2, 1) := by decide +kernel
theorem dX9_gapping_55 : decode cX9_gapping 55 = .ok (.iastore, 1) := by decide +kernel
theorem dX9_gapping_56 : decode cX9_gapping 56 = .ok (.aload_n 0, 1) := by decide +kernel
theorem dX9_gapping_57 : decode cX9_gapping 57 = .ok (.getfield 37, 3) := by decide +kernel
theorem dX9_gapping_60 : decode cX9_gapping 60 = .ok (.aload_n 0, 1) := by decide +kernel
theorem dX9_gapping_61 : decode cX9_gapping 61 = .ok (.getfield 173, 3) := by decide +kernel
theorem dX9_gapping_64 : decode cX9_gapping 64 = .ok (.iload_n 3, 1) := by decide +kernel
theorem dX9_gapping_65 : decode cX9_gapping 65 = .ok (.iastore, 1) := by decide +kernel
theorem dX9_gapping_66 : decode cX9_gapping 66 = .ok (.aload_n 0, 1) := by decide +kernel
theorem dX9_gapping_67 : decode cX9_gapping 67 = .ok (.dup, 1) := by decide +kernel
theorem dX9_gapping_68 : decode cX9_gapping 68 = .ok (.getfield 173, 3) := by decide +kernel
theorem dX9_gapping_71 : decode cX9_gapping 71 = .ok (.iconst 1, 1) := by decide +kernel
theorem dX9_gapping_72 : decode cX9_gapping 72 = .ok (.iadd, 1) := by decide +kernel
theorem dX9_gapping_73 : decode cX9_gapping 73 = .ok (.putfield 173, 3) := by decide +kernel
theorem dX9_gapping_76 : decode cX9_gapping 76 = .ok (.aload_n 0, 1) := by decide +kernel
theorem dX9_gapping_77 : decode cX9_gapping 77 = .ok (.getfield 173, 3) := by decide +kernel
theorem dX9_gapping_80 : decode cX9_gapping 80 = .ok (.ireturn, 1) := by decide +kernel
theorem dX9_back_0 : decode cX9_back 0 = .ok (.iload_n 1, 1) := by decide +kernel
theorem dX9_back_1 : decode cX9_back 1 = .ok (.iconst 0, 1) := by decide +kernel
theorem dX9_back_2 : decode cX9_back 2 = .ok (.iconst 1, 1) := by decide +kernel
theorem dX9_back_3 : decode cX9_back 3 = .ok (.invokestatic 107, 3) := by decide +kernel
theorem dX9_back_6 : decode cX9_back 6 = .ok (.ifCond .ne 6, 3) := by decide +kernel
theorem dX9_back_9 : decode cX9_back 9 = .ok (.bipush (-2), 2) := by decide +kernel
theorem dX9_back_11 : decode cX9_back 11 = .ok (.ireturn, 1) := by decide +kernel
theorem dX9_back_12 : decode cX9_back 12 = .ok (.iload_n 1, 1) := by decide +kernel
theorem dX9_back_13 : decode cX9_back 13 = .ok (.ifCond .ne 10, 3) := by decide +kernel
theorem dX9_back_16 : decode cX9_back 16 = .ok (.aload_n 0, 1) := by decide +kernel
theorem dX9_back_17 : decode cX9_back 17 = .ok (.getfield 170, 3) := by decide +kernel
theorem dX9_back_20 : decode cX9_back 20 = .ok (.goto 7, 3) := by decide +kernel
theorem dX9_back_23 : decode cX9_back 23 = .ok (.aload_n 0, 1) := by decide +kernel
theorem dX9_back_24 : decode cX9_back 24 = .ok (.getfield 173, 3) := by decide +kernel
theorem dX9_back_27 : decode cX9_back 27 = .ok (.istore_n 2, 1) := by decide +kernel
theorem dX9_back_28 : decode cX9_back 28 = .ok (.iload_n 2, 1) := by decide +kernel
end
section
theorem dX9_back_29 : decode cX9_back 29 = .ok (.ifCond .ne 6, 3) := by decide +kernel
theorem dX9_back_32 : decode cX9_back 32 = .ok (.bipush (-3), 2) := by decide +kernel
theorem dX9_back_34 : decode cX9_back 34 = .ok (.ireturn, 1) := by decide +kernel
theorem dX9_back_35 : decode cX9_back 35 = .ok (.aload_n 0, 1) := by decide +kernel
theorem dX9_back_36 : decode cX9_back 36 = .ok (.dup, 1) := by decide +kernel
theorem dX9_back_37 : decode cX9_back 37 = .ok (.getfield 170, 3) := by decide +kernel
theorem dX9_back_40 : decode cX9_back 40 = .ok (.iload_n 1, 1) := by decide +kernel
theorem dX9_back_41 : decode cX9_back 41 = .ok (.ifCond .ne 7, 3) := by decide +kernel
theorem dX9_back_44 : decode cX9_back 44 = .ok (.iconst 1, 1) := by decide +kernel
theorem dX9_back_45 : decode cX9_back 45 = .ok (.goto 4, 3) := by decide +kernel
theorem dX9_back_48 : decode cX9_back 48 = .ok (.iconst 0, 1) := by decide +kernel
theorem dX9_back_49 : decode cX9_back 49 = .ok (.isub, 1) := by decide +kernel
theorem dX9_back_50 : decode cX9_back 50 = .ok (.putfield 170, 3) := by decide +kernel
theorem dX9_back_53 : decode cX9_back 53 = .ok (.aload_n 0, 1) := by decide +kernel
theorem dX9_back_54 : decode cX9_back 54 = .ok (.dup, 1) := by decide +kernel
theorem dX9_back_55 : decode cX9_back 55 = .ok (.getfield 173, 3) := by decide +kernel
theorem dX9_back_58 : decode cX9_back 58 = .ok (.iload_n 1, 1) := by decide +kernel
theorem dX9_back_59 : decode cX9_back 59 = .ok (.iconst 1, 1) := by decide +kernel
theorem dX9_back_60 : decode cX9_back 60 = .ok (.if_icmp .ne 7, 3) := by decide +kernel
theorem dX9_back_63 : decode cX9_back 63 = .ok (.iconst 1, 1) := by decide +kernel
theorem dX9_back_64 : decode cX9_back 64 = .ok (.goto 4, 3) := by decide +kernel
theorem dX9_back_67 : decode cX9_back 67 = .ok (.iconst 0, 1) := by decide +kernel
theorem dX9_back_68 : decode cX9_back 68 = .ok (.isub, 1) := by decide +kernel
theorem dX9_back_69 : decode cX9_back 69 = .ok (.putfield 173, 3) := by decide +kernel
theorem dX9_back_72 : decode cX9_back 72 = .ok (.iload_n 2, 1) := by decide +kernel
theorem dX9_back_73 : decode cX9_back 73 = .ok (.iconst 1, 1) := by decide +kernel
theorem dX9_back_74 : decode cX9_back 74 = .ok (.isub, 1) := by decide +kernel
theorem dX9_back_75 : decode cX9_back 75 = .ok (.ireturn, 1) := by decide +kernel
theorem dX9_read_0 : decode cX9_read 0 = .ok (.iload_n 1, 1) := by decide +kernel
theorem dX9_read_1 : decode cX9_read 1 = .ok (.invokestatic 176, 3) := by decide +kernel
theorem dX9_read_4 : decode cX9_read 4 = .ok (.ifCond .ne 6, 3) := by decide +kernel
theorem dX9_read_7 : decode cX9_read 7 = .ok (.bipush (-2), 2) := by decide +kernel
theorem dX9_read_9 : decode cX9_read 9 = .ok (.ireturn, 1) := by decide +kernel
theorem dX9_read_10 : decode cX9_read 10 = .ok (.aload_n 0, 1) := by decide +kernel
theorem dX9_read_11 : decode cX9_read 11 = .ok (.getfield 86, 3) := by decide +kernel
theorem dX9_read_14 : decode cX9_read 14 = .ok (.iload_n 1, 1) := by decide +kernel
theorem dX9_read_15 : decode cX9_read 15 = .ok (.baload, 1) := by decide +kernel
theorem dX9_read_16 : decode cX9_read 16 = .ok (.ifCond .ne 9, 3) := by decide +kernel
theorem dX9_read_19 : decode cX9_read 19 = .ok (.aload_n 0, 1) := by decide +kernel
theorem dX9_read_20 : decode cX9_read 20 = .ok (.iconst 1, 1) := by decide +kernel
theorem dX9_read_21 : decode cX9_read 21 = .ok (.invokevirtual 179, 3) := by decide +kernel
theorem dX9_read_24 : decode cX9_read 24 = .ok (.ireturn, 1) := by decide +kernel
theorem dX9_read_25 : decode cX9_read 25 = .ok (.iconst 0, 1) := by decide +kernel
theorem dX9_read_26 : decode cX9_read 26 = .ok (.istore_n 2, 1) := by decide +kernel
theorem dX9_read_27 : decode cX9_read 27 = .ok (.iconst 2, 1) := by decide +kernel
theorem dX9_read_28 : decode cX9_read 28 = .ok (.iload_n 2, 1) := by decide +kernel
theorem dX9_read_29 : decode cX9_read 29 = .ok (.imul, 1) := by decide +kernel
theorem dX9_read_30 : decode cX9_read 30 = .ok (.iconst 1, 1) := by decide +kernel
theorem dX9_read_31 : decode cX9_read 31 = .ok (.iadd, 1) := by decide +kernel
theorem dX9_read_32 : decode cX9_read 32 = .ok (.aload_n 0, 1) := by decide +kernel
theorem dX9_read_33 : decode cX9_read 33 = .ok (.getfield 92, 3) := by decide +kernel
theorem dX9_read_36 : decode cX9_read 36 = .ok (.iload_n 1, 1) := by decide +kernel
theorem dX9_read_37 : decode cX9_read 37 = .ok (.iaload, 1) := by decide +kernel
theorem dX9_read_38 : decode cX9_read 38 = .ok (.if_icmp .ge 44, 3) := by decide +kernel
theorem dX9_read_41 : decode cX9_read 41 = .ok (.aload_n 0, 1) := by decide +kernel
theorem dX9_read_42 : decode cX9_read 42 = .ok (.aload_n 0, 1) := by decide +kernel
theorem dX9_read_43 : decode cX9_read 43 = .ok (.getfield 95, 3) := by decide +kernel
theorem dX9_read_46 : decode cX9_read 46 = .ok (.bipush 60, 2) := by decide +kernel
theorem dX9_read_48 : decode cX9_read 48 = .ok (.iload_n 1, 1) := by decide +kernel
theorem dX9_read_49 : decode cX9_read 49 = .ok (.imul, 1) := by decide +kernel
theorem dX9_read_50 : decode cX9_read 50 = .ok (.iconst 2, 1) := by decide +kernel
theorem dX9_read_51 : decode cX9_read 51 = .ok (.iload_n 2, 1) := by decide +kernel
theorem dX9_read_52 : decode cX9_read 52 = .ok (.imul, 1) := by decide +kernel
theorem dX9_read_53 : decode cX9_read 53 = .ok (.iadd, 1) := by decide +kernel
theorem dX9_read_54 : decode cX9_read 54 = .ok (.iaload, 1) := by decide +kernel
theorem dX9_read_55 : decode cX9_read 55 = .ok (.aload_n 0, 1) := by decide +kernel
theorem dX9_read_56 : decode cX9_read 56 = .ok (.getfield 95, 3) := by decide +kernel
theorem dX9_read_59 : decode cX9_read 59 = .ok (.bipush 60, 2) := by decide +kernel
theorem dX9_read_61 : decode cX9_read 61 = .ok (.iload_n 1, 1) := by decide +kernel
theorem dX9_read_62 : decode cX9_read 62 = .ok (.imul, 1) := by decide +kernel
theorem dX9_read_63 : decode cX9_read 63 = .ok (.iconst 2, 1) := by decide +kernel
theorem dX9_read_64 : decode cX9_read 64 = .ok (.iload_n 2, 1) := by decide +kernel
theorem dX9_read_65 : decode cX9_read 65 = .ok (.imul, 1) := by decide +kernel
theorem dX9_read_66 : decode cX9_read 66 = .ok (.iadd, 1) := by decide +kernel
theorem dX9_read_67 : decode cX9_read 67 = .ok (.iconst 1, 1) := by decide +kernel
theorem dX9_read_68 : decode cX9_read 68 = .ok (.iadd, 1) := by decide +kernel
theorem dX9_read_69 : decode cX9_read 69 = .ok (.iaload, 1) := by decide +kernel
theorem dX9_read_70 : decode cX9_read 70 = .ok (.invokevirtual 182, 3) := by decide +kernel
theorem dX9_read_73 : decode cX9_read 73 = .ok (.ifCond .le 9, 3) := by decide +kernel
theorem dX9_read_76 : decode cX9_read 76 = .ok (.iinc 2 1, 3) := by decide +kernel
theorem dX9_read_79 : decode cX9_read 79 = .ok (.goto (-52), 3) := by decide +kernel
theorem dX9_read_82 : decode cX9_read 82 = .ok (.iload_n 2, 1) := by decide +kernel
theorem dX9_read_83 : decode cX9_read 83 = .ok (.ireturn, 1) := by decide +kernel
theorem dX9_asTold_0 : decode cX9_asTold 0 = .ok (.aload_n 0, 1) := by decide +kernel
theorem dX9_asTold_1 : decode cX9_asTold 1 = .ok (.invokevirtual 151, 3) := by decide +kernel
theorem dX9_asTold_4 : decode cX9_asTold 4 = .ok (.aload_n 0, 1) := by decide +kernel
theorem dX9_asTold_5 : decode cX9_asTold 5 = .ok (.aload_n 0, 1) := by decide +kernel
theorem dX9_asTold_6 : decode cX9_asTold 6 = .ok (.getfield 170, 3) := by decide +kernel
theorem dX9_asTold_9 : decode cX9_asTold 9 = .ok (.putfield 185, 3) := by decide +kernel
theorem dX9_asTold_12 : decode cX9_asTold 12 = .ok (.iconst 0, 1) := by decide +kernel
theorem dX9_asTold_13 : decode cX9_asTold 13 = .ok (.istore_n 1, 1) := by decide +kernel
theorem dX9_asTold_14 : decode cX9_asTold 14 = .ok (.iload_n 1, 1) := by decide +kernel
theorem dX9_asTold_15 : decode cX9_asTold 15 = .ok (.aload_n 0, 1) := by decide +kernel
theorem dX9_asTold_16 : decode cX9_asTold 16 = .ok (.getfield 170, 3) := by decide +kernel
theorem dX9_asTold_19 : decode cX9_asTold 19 = .ok (.if_icmp .ge 33, 3) := by decide +kernel
theorem dX9_asTold_22 : decode cX9_asTold 22 = .ok (.aload_n 0, 1) := by decide +kernel
theorem dX9_asTold_23 : decode cX9_asTold 23 = .ok (.getfield 43, 3) := by decide +kernel
theorem dX9_asTold_26 : decode cX9_asTold 26 = .ok (.iload_n 1, 1) := by decide +kernel
theorem dX9_asTold_27 : decode cX9_asTold 27 = .ok (.aload_n 0, 1) := by decide +kernel
theorem dX9_asTold_28 : decode cX9_asTold 28 = .ok (.getfield 25, 3) := by decide +kernel
theorem dX9_asTold_31 : decode cX9_asTold 31 = .ok (.iload_n 1, 1) := by decide +kernel
theorem dX9_asTold_32 : decode cX9_asTold 32 = .ok (.iaload, 1) := by decide +kernel
theorem dX9_asTold_33 : decode cX9_asTold 33 = .ok (.iastore, 1) := by decide +kernel
theorem dX9_asTold_34 : decode cX9_asTold 34 = .ok (.aload_n 0, 1) := by decide +kernel
theorem dX9_asTold_35 : decode cX9_asTold 35 = .ok (.getfield 46, 3) := by decide +kernel
theorem dX9_asTold_38 : decode cX9_asTold 38 = .ok (.iload_n 1, 1) := by decide +kernel
theorem dX9_asTold_39 : decode cX9_asTold 39 = .ok (.aload_n 0, 1) := by decide +kernel
theorem dX9_asTold_40 : decode cX9_asTold 40 = .ok (.getfield 28, 3) := by decide +kernel
theorem dX9_asTold_43 : decode cX9_asTold 43 = .ok (.iload_n 1, 1) := by decide +kernel
theorem dX9_asTold_44 : decode cX9_asTold 44 = .ok (.iaload, 1) := by decide +kernel
theorem dX9_asTold_45 : decode cX9_asTold 45 = .ok (.iastore, 1) := by decide +kernel
theorem dX9_asTold_46 : decode cX9_asTold 46 = .ok (.iinc 1 1, 3) := by decide +kernel
theorem dX9_asTold_49 : decode cX9_asTold 49 = .ok (.goto (-35), 3) := by decide +kernel
theorem dX9_asTold_52 : decode cX9_asTold 52 = .ok (.aload_n 0, 1) := by decide +kernel
theorem dX9_asTold_53 : decode cX9_asTold 53 = .ok (.iconst 0, 1) := by decide +kernel
theorem dX9_asTold_54 : decode cX9_asTold 54 = .ok (.putfield 188, 3) := by decide +kernel
theorem dX9_asTold_57 : decode cX9_asTold 57 = .ok (.aload_n 0, 1) := by decide +kernel
theorem dX9_asTold_58 : decode cX9_asTold 58 = .ok (.aload_n 0, 1) := by decide +kernel
theorem dX9_asTold_59 : decode cX9_asTold 59 = .ok (.getfield 173, 3) := by decide +kernel
theorem dX9_asTold_62 : decode cX9_asTold 62 = .ok (.putfield 191, 3) := by decide +kernel
theorem dX9_asTold_65 : decode cX9_asTold 65 = .ok (.return_, 1) := by decide +kernel
theorem dX9_handNow_0 : decode cX9_handNow 0 = .ok (.iload_n 1, 1) := by decide +kernel
theorem dX9_handNow_1 : decode cX9_handNow 1 = .ok (.iconst 0, 1) := by decide +kernel
theorem dX9_handNow_2 : decode cX9_handNow 2 = .ok (.aload_n 0, 1) := by decide +kernel
theorem dX9_handNow_3 : decode cX9_handNow 3 = .ok (.getfield 118, 3) := by decide +kernel
theorem dX9_handNow_6 : decode cX9_handNow 6 = .ok (.iconst 1, 1) := by decide +kernel
theorem dX9_handNow_7 : decode cX9_handNow 7 = .ok (.isub, 1) := by decide +kernel
theorem dX9_handNow_8 : decode cX9_handNow 8 = .ok (.invokestatic 107, 3) := by decide +kernel
theorem dX9_handNow_11 : decode cX9_handNow 11 = .ok (.ifCond .eq 31, 3) := by decide +kernel
theorem dX9_handNow_14 : decode cX9_handNow 14 = .ok (.iload_n 2, 1) := by decide +kernel
theorem dX9_handNow_15 : decode cX9_handNow 15 = .ok (.iconst 0, 1) := by decide +kernel
theorem dX9_handNow_16 : decode cX9_handNow 16 = .ok (.aload_n 0, 1) := by decide +kernel
theorem dX9_handNow_17 : decode cX9_handNow 17 = .ok (.getfield 121, 3) := by decide +kernel
theorem dX9_handNow_20 : decode cX9_handNow 20 = .ok (.iconst 1, 1) := by decide +kernel
theorem dX9_handNow_21 : decode cX9_handNow 21 = .ok (.isub, 1) := by decide +kernel
theorem dX9_handNow_22 : decode cX9_handNow 22 = .ok (.invokestatic 107, 3) := by decide +kernel
theorem dX9_handNow_25 : decode cX9_handNow 25 = .ok (.ifCond .eq 17, 3) := by decide +kernel
theorem dX9_handNow_28 : decode cX9_handNow 28 = .ok (.aload_n 0, 1) := by decide +kernel
theorem dX9_handNow_29 : decode cX9_handNow 29 = .ok (.getfield 40, 3) := by decide +kernel
theorem dX9_handNow_32 : decode cX9_handNow 32 = .ok (.bipush 8, 2) := by decide +kernel
theorem dX9_handNow_34 : decode cX9_handNow 34 = .ok (.iload_n 1, 1) := by decide +kernel
theorem dX9_handNow_35 : decode cX9_handNow 35 = .ok (.imul, 1) := by decide +kernel
theorem dX9_handNow_36 : decode cX9_handNow 36 = .ok (.iload_n 2, 1) := by decide +kernel
theorem dX9_handNow_37 : decode cX9_handNow 37 = .ok (.iadd, 1) := by decide +kernel
theorem dX9_handNow_38 : decode cX9_handNow 38 = .ok (.iaload, 1) := by decide +kernel
theorem dX9_handNow_39 : decode cX9_handNow 39 = .ok (.goto 4, 3) := by decide +kernel
theorem dX9_handNow_42 : decode cX9_handNow 42 = .ok (.iconst (-1), 1) := by decide +kernel
theorem dX9_handNow_43 : decode cX9_handNow 43 = .ok (.ireturn, 1) := by decide +kernel
theorem dX9_isBorne_0 : decode cX9_isBorne 0 = .ok (.aload_n 0, 1) := by decide +kernel
theorem dX9_isBorne_1 : decode cX9_isBorne 1 = .ok (.iload_n 1, 1) := by decide +kernel
theorem dX9_isBorne_2 : decode cX9_isBorne 2 = .ok (.iconst 1, 1) := by decide +kernel
theorem dX9_isBorne_3 : decode cX9_isBorne 3 = .ok (.isub, 1) := by decide +kernel
theorem dX9_isBorne_4 : decode cX9_isBorne 4 = .ok (.iload_n 2, 1) := by decide +kernel
theorem dX9_isBorne_5 : decode cX9_isBorne 5 = .ok (.invokevirtual 194, 3) := by decide +kernel
theorem dX9_isBorne_8 : decode cX9_isBorne 8 = .ok (.iconst (-1), 1) := by decide +kernel
theorem dX9_isBorne_9 : decode cX9_isBorne 9 = .ok (.if_icmp .eq 7, 3) := by decide +kernel
theorem dX9_isBorne_12 : decode cX9_isBorne 12 = .ok (.iconst 1, 1) := by decide +kernel
theorem dX9_isBorne_13 : decode cX9_isBorne 13 = .ok (.goto 4, 3) := by decide +kernel
theorem dX9_isBorne_16 : decode cX9_isBorne 16 = .ok (.iconst 0, 1) := by decide +kernel
theorem dX9_isBorne_17 : decode cX9_isBorne 17 = .ok (.istore_n 3, 1) := by decide +kernel
theorem dX9_isBorne_18 : decode cX9_isBorne 18 = .ok (.aload_n 0, 1) := by decide +kernel
theorem dX9_isBorne_19 : decode cX9_isBorne 19 = .ok (.iload_n 1, 1) := by decide +kernel
theorem dX9_isBorne_20 : decode cX9_isBorne 20 = .ok (.iconst 1, 1) := by decide +kernel
theorem dX9_isBorne_21 : decode cX9_isBorne 21 = .ok (.isub, 1) := by decide +kernel
theorem dX9_isBorne_22 : decode cX9_isBorne 22 = .ok (.iload_n 2, 1) := by decide +kernel
theorem dX9_isBorne_23 : decode cX9_isBorne 23 = .ok (.iconst 1, 1) := by decide +kernel
theorem dX9_isBorne_24 : decode cX9_isBorne 24 = .ok (.isub, 1) := by decide +kernel
theorem dX9_isBorne_25 : decode cX9_isBorne 25 = .ok (.invokevirtual 194, 3) := by decide +kernel
theorem dX9_isBorne_28 : decode cX9_isBorne 28 = .ok (.iconst (-1), 1) := by decide +kernel
theorem dX9_isBorne_29 : decode cX9_isBorne 29 = .ok (.if_icmp .eq 21, 3) := by decide +kernel
theorem dX9_isBorne_32 : decode cX9_isBorne 32 = .ok (.aload_n 0, 1) := by decide +kernel
theorem dX9_isBorne_33 : decode cX9_isBorne 33 = .ok (.iload_n 1, 1) := by decide +kernel
theorem dX9_isBorne_34 : decode cX9_isBorne 34 = .ok (.iconst 1, 1) := by decide +kernel
theorem dX9_isBorne_35 : decode cX9_isBorne 35 = .ok (.isub, 1) := by decide +kernel
theorem dX9_isBorne_36 : decode cX9_isBorne 36 = .ok (.iload_n 2, 1) := by decide +kernel
theorem dX9_isBorne_37 : decode cX9_isBorne 37 = .ok (.iconst 1, 1) := by decide +kernel
theorem dX9_isBorne_38 : decode cX9_isBorne 38 = .ok (.iadd, 1) := by decide +kernel
theorem dX9_isBorne_39 : decode cX9_isBorne 39 = .ok (.invokevirtual 194, 3) := by decide +kernel
theorem dX9_isBorne_42 : decode cX9_isBorne 42 = .ok (.iconst (-1), 1) := by decide +kernel
theorem dX9_isBorne_43 : decode cX9_isBorne 43 = .ok (.if_icmp .eq 7, 3) := by decide +kernel
theorem dX9_isBorne_46 : decode cX9_isBorne 46 = .ok (.iconst 1, 1) := by decide +kernel
theorem dX9_isBorne_47 : decode cX9_isBorne 47 = .ok (.goto 4, 3) := by decide +kernel
theorem dX9_isBorne_50 : decode cX9_isBorne 50 = .ok (.iconst 0, 1) := by decide +kernel
theorem dX9_isBorne_51 : decode cX9_isBorne 51 = .ok (.istore 4, 2) := by decide +kernel
theorem dX9_isBorne_53 : decode cX9_isBorne 53 = .ok (.iload_n 1, 1) := by decide +kernel
theorem dX9_isBorne_54 : decode cX9_isBorne 54 = .ok (.ifCond .eq 12, 3) := by decide +kernel
theorem dX9_isBorne_57 : decode cX9_isBorne 57 = .ok (.iload_n 3, 1) := by decide +kernel
theorem dX9_isBorne_58 : decode cX9_isBorne 58 = .ok (.ifCond .ne 8, 3) := by decide +kernel
theorem dX9_isBorne_61 : decode cX9_isBorne 61 = .ok (.iload 4, 2) := by decide +kernel
theorem dX9_isBorne_63 : decode cX9_isBorne 63 = .ok (.ifCond .eq 7, 3) := by decide +kernel
theorem dX9_isBorne_66 : decode cX9_isBorne 66 = .ok (.iconst 1, 1) := by decide +kernel
theorem dX9_isBorne_67 : decode cX9_isBorne 67 = .ok (.goto 4, 3) := by decide +kernel
theorem dX9_isBorne_70 : decode cX9_isBorne 70 = .ok (.iconst 0, 1) := by decide +kernel
theorem dX9_isBorne_71 : decode cX9_isBorne 71 = .ok (.ireturn, 1) := by decide +kernel
theorem dX9_alike_0 : decode cX9_alike 0 = .ok (.iload_n 2, 1) := by decide +kernel
theorem dX9_alike_1 : decode cX9_alike 1 = .ok (.iload_n 1, 1) := by decide +kernel
theorem dX9_alike_2 : decode cX9_alike 2 = .ok (.if_icmp .ne 7, 3) := by decide +kernel
theorem dX9_alike_5 : decode cX9_alike 5 = .ok (.iconst 1, 1) := by decide +kernel
theorem dX9_alike_6 : decode cX9_alike 6 = .ok (.goto 4, 3) := by decide +kernel
theorem dX9_alike_9 : decode cX9_alike 9 = .ok (.iconst 0, 1) := by decide +kernel
theorem dX9_alike_10 : decode cX9_alike 10 = .ok (.ireturn, 1) := by decide +kernel
theorem dX9_unlike_0 : decode cX9_unlike 0 = .ok (.iload_n 2, 1) := by decide +kernel
theorem dX9_unlike_1 : decode cX9_unlike 1 = .ok (.iconst (-1), 1) := by decide +kernel
theorem dX9_unlike_2 : decode cX9_unlike 2 = .ok (.if_icmp .eq 12, 3) := by decide +kernel
theorem dX9_unlike_5 : decode cX9_unlike 5 = .ok (.iload_n 2, 1) := by decide +kernel
theorem dX9_unlike_6 : decode cX9_unlike 6 = .ok (.iload_n 1, 1) := by decide +kernel
theorem dX9_unlike_7 : decode cX9_unlike 7 = .ok (.if_icmp .eq 7, 3) := by decide +kernel
theorem dX9_unlike_10 : decode cX9_unlike 10 = .ok (.iconst 1, 1) := by decide +kernel
theorem dX9_unlike_11 : decode cX9_unlike 11 = .ok (.goto 4, 3) := by decide +kernel
theorem dX9_unlike_14 : decode cX9_unlike 14 = .ok (.iconst 0, 1) := by decide +kernel
theorem dX9_unlike_15 : decode cX9_unlike 15 = .ok (.ireturn, 1) := by decide +kernel
theorem dX9_isLover_0 : decode cX9_isLover 0 = .ok (.iload_n 1, 1) := by decide +kernel
theorem dX9_isLover_1 : decode cX9_isLover 1 = .ok (.iconst (-1), 1) := by decide +kernel
theorem dX9_isLover_2 : decode cX9_isLover 2 = .ok (.if_icmp .eq 25, 3) := by decide +kernel
theorem dX9_isLover_5 : decode cX9_isLover 5 = .ok (.iload_n 1, 1) := by decide +kernel
theorem dX9_isLover_6 : decode cX9_isLover 6 = .ok (.aload_n 0, 1) := by decide +kernel
theorem dX9_isLover_7 : decode cX9_isLover 7 = .ok (.getfield 135, 3) := by decide +kernel
theorem dX9_isLover_10 : decode cX9_isLover 10 = .ok (.if_icmp .ge 17, 3) := by decide +kernel
theorem dX9_isLover_13 : decode cX9_isLover 13 = .ok (.aload_n 0, 1) := by decide +kernel
theorem dX9_isLover_14 : decode cX9_isLover 14 = .ok (.getfield 19, 3) := by decide +kernel
theorem dX9_isLover_17 : decode cX9_isLover 17 = .ok (.iload_n 1, 1) := by decide +kernel
theorem dX9_isLover_18 : decode cX9_isLover 18 = .ok (.iaload, 1) := by decide +kernel
theorem dX9_isLover_19 : decode cX9_isLover 19 = .ok (.iconst 2, 1) := by decide +kernel
theorem dX9_isLover_20 : decode cX9_isLover 20 = .ok (.if_icmp .ne 7, 3) := by decide +kernel
theorem dX9_isLover_23 : decode cX9_isLover 23 = .ok (.iconst 1, 1) := by decide +kernel
theorem dX9_isLover_24 : decode cX9_isLover 24 = .ok (.goto 4, 3) := by decide +kernel
theorem dX9_isLover_27 : decode cX9_isLover 27 = .ok (.iconst 0, 1) := by decide +kernel
theorem dX9_isLover_28 : decode cX9_isLover 28 = .ok (.ireturn, 1) := by decide +kernel
theorem dX9_loves_0 : decode cX9_loves 0 = .ok (.iload_n 2, 1) := by decide +kernel
theorem dX9_loves_1 : decode cX9_loves 1 = .ok (.iload_n 1, 1) := by decide +kernel
theorem dX9_loves_2 : decode cX9_loves 2 = .ok (.if_icmp .eq 15, 3) := by decide +kernel
theorem dX9_loves_5 : decode cX9_loves 5 = .ok (.aload_n 0, 1) := by decide +kernel
theorem dX9_loves_6 : decode cX9_loves 6 = .ok (.iload_n 2, 1) := by decide +kernel
theorem dX9_loves_7 : decode cX9_loves 7 = .ok (.invokevirtual 197, 3) := by decide +kernel
theorem dX9_loves_10 : decode cX9_loves 10 = .ok (.ifCond .eq 7, 3) := by decide +kernel
theorem dX9_loves_13 : decode cX9_loves 13 = .ok (.iconst 1, 1) := by decide +kernel
theorem dX9_loves_14 : decode cX9_loves 14 = .ok (.goto 4, 3) := by decide +kernel
theorem dX9_loves_17 : decode cX9_loves 17 = .ok (.iconst 0, 1) := by decide +kernel
theorem dX9_loves_18 : decode cX9_loves 18 = .ok (.ireturn, 1) := by decide +kernel
theorem dX9_holds_0 : decode cX9_holds 0 = .ok (.aload_n 0, 1) := by decide +kernel
theorem dX9_holds_1 : decode cX9_holds 1 = .ok (.iload_n 1, 1) := by decide +kernel
theorem dX9_holds_2 : decode cX9_holds 2 = .ok (.iload_n 2, 1) := by decide +kernel
theorem dX9_holds_3 : decode cX9_holds 3 = .ok (.invokevirtual 194, 3) := by decide +kernel
theorem dX9_holds_6 : decode cX9_holds 6 = .ok (.istore_n 3, 1) := by decide +kernel
theorem dX9_holds_7 : decode cX9_holds 7 = .ok (.iload_n 3, 1) := by decide +kernel
theorem dX9_holds_8 : decode cX9_holds 8 = .ok (.aload_n 0, 1) := by decide +kernel
theorem dX9_holds_9 : decode cX9_holds 9 = .ok (.getfield 135, 3) := by decide +kernel
theorem dX9_holds_12 : decode cX9_holds 12 = .ok (.if_icmp .lt 5, 3) := by decide +kernel
theorem dX9_holds_15 : decode cX9_holds 15 = .ok (.iconst 0, 1) := by decide +kernel
theorem dX9_holds_16 : decode cX9_holds 16 = .ok (.ireturn, 1) := by decide +kernel
theorem dX9_holds_17 : decode cX9_holds 17 = .ok (.aload_n 0, 1) := by decide +kernel
theorem dX9_holds_18 : decode cX9_holds 18 = .ok (.iload_n 1, 1) := by decide +kernel
theorem dX9_holds_19 : decode cX9_holds 19 = .ok (.iload_n 2, 1) := by decide +kernel
theorem dX9_holds_20 : decode cX9_holds 20 = .ok (.iconst 1, 1) := by decide +kernel
theorem dX9_holds_21 : decode cX9_holds 21 = .ok (.isub, 1) := by decide +kernel
theorem dX9_holds_22 : decode cX9_holds 22 = .ok (.invokevirtual 194, 3) := by decide +kernel
theorem dX9_holds_25 : decode cX9_holds 25 = .ok (.istore 4, 2) := by decide +kernel
theorem dX9_holds_27 : decode cX9_holds 27 = .ok (.aload_n 0, 1) := by decide +kernel
theorem dX9_holds_28 : decode cX9_holds 28 = .ok (.iload_n 1, 1) := by decide +kernel
theorem dX9_holds_29 : decode cX9_holds 29 = .ok (.iload_n 2, 1) := by decide +kernel
theorem dX9_holds_30 : decode cX9_holds 30 = .ok (.iconst 1, 1) := by decide +kernel
theorem dX9_holds_31 : decode cX9_holds 31 = .ok (.iadd, 1) := by decide +kernel
theorem dX9_holds_32 : decode cX9_holds 32 = .ok (.invokevirtual 194, 3) := by decide +kernel
theorem dX9_holds_35 : decode cX9_holds 35 = .ok (.istore 5, 2) := by decide +kernel
theorem dX9_holds_37 : decode cX9_holds 37 = .ok (.aload_n 0, 1) := by decide +kernel
theorem dX9_holds_38 : decode cX9_holds 38 = .ok (.iload_n 1, 1) := by decide +kernel
theorem dX9_holds_39 : decode cX9_holds 39 = .ok (.iconst 1, 1) := by decide +kernel
theorem dX9_holds_40 : decode cX9_holds 40 = .ok (.isub, 1) := by decide +kernel
theorem dX9_holds_41 : decode cX9_holds 41 = .ok (.iload_n 2, 1) := by decide +kernel
theorem dX9_holds_42 : decode cX9_holds 42 = .ok (.invokevirtual 194, 3) := by decide +kernel
theorem dX9_holds_45 : decode cX9_holds 45 = .ok (.istore 6, 2) := by decide +kernel
theorem dX9_holds_47 : decode cX9_holds 47 = .ok (.aload_n 0, 1) := by decide +kernel
theorem dX9_holds_48 : decode cX9_holds 48 = .ok (.iload_n 1, 1) := by decide +kernel
theorem dX9_holds_49 : decode cX9_holds 49 = .ok (.iconst 1, 1) := by decide +kernel
theorem dX9_holds_50 : decode cX9_holds 50 = .ok (.iadd, 1) := by decide +kernel
theorem dX9_holds_51 : decode cX9_holds 51 = .ok (.iload_n 2, 1) := by decide +kernel
theorem dX9_holds_52 : decode cX9_holds 52 = .ok (.invokevirtual 194, 3) := by decide +kernel
theorem dX9_holds_55 : decode cX9_holds 55 = .ok (.istore 7, 2) := by decide +kernel
theorem dX9_holds_57 : decode cX9_holds 57 = .ok (.aload_n 0, 1) := by decide +kernel
theorem dX9_holds_58 : decode cX9_holds 58 = .ok (.getfield 22, 3) := by decide +kernel
theorem dX9_holds_61 : decode cX9_holds 61 = .ok (.iload_n 3, 1) := by decide +kernel
theorem dX9_holds_62 : decode cX9_holds 62 = .ok (.iaload, 1) := by decide +kernel
theorem dX9_holds_63 : decode cX9_holds 63 = .ok (.aload_n 0, 1) := by decide +kernel
theorem dX9_holds_64 : decode cX9_holds 64 = .ok (.iload_n 3, 1) := by decide +kernel
theorem dX9_holds_65 : decode cX9_holds 65 = .ok (.iload 4, 2) := by decide +kernel
theorem dX9_holds_67 : decode cX9_holds 67 = .ok (.invokevirtual 200, 3) := by decide +kernel
theorem dX9_holds_70 : decode cX9_holds 70 = .ok (.iadd, 1) := by decide +kernel
theorem dX9_holds_71 : decode cX9_holds 71 = .ok (.aload_n 0, 1) := by decide +kernel
theorem dX9_holds_72 : decode cX9_holds 72 = .ok (.iload_n 3, 1) := by decide +kernel
theorem dX9_holds_73 : decode cX9_holds 73 = .ok (.iload 5, 2) := by decide +kernel
theorem dX9_holds_75 : decode cX9_holds 75 = .ok (.invokevirtual 200, 3) := by decide +kernel
theorem dX9_holds_78 : decode cX9_holds 78 = .ok (.iadd, 1) := by decide +kernel
theorem dX9_holds_79 : decode cX9_holds 79 = .ok (.aload_n 0, 1) := by decide +kernel
theorem dX9_holds_80 : decode cX9_holds 80 = .ok (.iload_n 3, 1) := by decide +kernel
theorem dX9_holds_81 : decode cX9_holds 81 = .ok (.iload 6, 2) := by decide +kernel
theorem dX9_holds_83 : decode cX9_holds 83 = .ok (.invokevirtual 200, 3) := by decide +kernel
theorem dX9_holds_86 : decode cX9_holds 86 = .ok (.iadd, 1) := by decide +kernel
theorem dX9_holds_87 : decode cX9_holds 87 = .ok (.aload_n 0, 1) := by decide +kernel
theorem dX9_holds_88 : decode cX9_holds 88 = .ok (.iload_n 3, 1) := by decide +kernel
theorem dX9_holds_89 : decode cX9_holds 89 = .ok (.iload 7, 2) := by decide +kernel
theorem dX9_holds_91 : decode cX9_holds 91 = .ok (.invokevirtual 200, 3) := by decide +kernel
theorem dX9_holds_94 : decode cX9_holds 94 = .ok (.iadd, 1) := by decide +kernel
theorem dX9_holds_95 : decode cX9_holds 95 = .ok (.istore 8, 2) := by decide +kernel
theorem dX9_holds_97 : decode cX9_holds 97 = .ok (.aload_n 0, 1) := by decide +kernel
theorem dX9_holds_98 : decode cX9_holds 98 = .ok (.getfield 19, 3) := by decide +kernel
theorem dX9_holds_101 : decode cX9_holds 101 = .ok (.iload_n 3, 1) := by decide +kernel
theorem dX9_holds_102 : decode cX9_holds 102 = .ok (.iaload, 1) := by decide +kernel
theorem dX9_holds_103 : decode cX9_holds 103 = .ok (.iconst 1, 1) := by decide +kernel
theorem dX9_holds_104 : decode cX9_holds 104 = .ok (.if_icmp .ne 39, 3) := by decide +kernel
theorem dX9_holds_107 : decode cX9_holds 107 = .ok (.iload 8, 2) := by decide +kernel
theorem dX9_holds_109 : decode cX9_holds 109 = .ok (.aload_n 0, 1) := by decide +kernel
theorem dX9_holds_110 : decode cX9_holds 110 = .ok (.iload_n 3, 1) := by decide +kernel
theorem dX9_holds_111 : decode cX9_holds 111 = .ok (.iload 4, 2) := by decide +kernel
theorem dX9_holds_113 : decode cX9_holds 113 = .ok (.invokevirtual 203, 3) := by decide +kernel
theorem dX9_holds_116 : decode cX9_holds 116 = .ok (.aload_n 0, 1) := by decide +kernel
theorem dX9_holds_117 : decode cX9_holds 117 = .ok (.iload_n 3, 1) := by decide +kernel
theorem dX9_holds_118 : decode cX9_holds 118 = .ok (.iload 5, 2) := by decide +kernel
theorem dX9_holds_120 : decode cX9_holds 120 = .ok (.invokevirtual 203, 3) := by decide +kernel
theorem dX9_holds_123 : decode cX9_holds 123 = .ok (.iadd, 1) := by decide +kernel
theorem dX9_holds_124 : decode cX9_holds 124 = .ok (.aload_n 0, 1) := by decide +kernel
theorem dX9_holds_125 : decode cX9_holds 125 = .ok (.iload_n 3, 1) := by decide +kernel
theorem dX9_holds_126 : decode cX9_holds 126 = .ok (.iload 6, 2) := by decide +kernel
theorem dX9_holds_128 : decode cX9_holds 128 = .ok (.invokevirtual 203, 3) := by decide +kernel
theorem dX9_holds_131 : decode cX9_holds 131 = .ok (.iadd, 1) := by decide +kernel
theorem dX9_holds_132 : decode cX9_holds 132 = .ok (.aload_n 0, 1) := by decide +kernel
theorem dX9_holds_133 : decode cX9_holds 133 = .ok (.iload_n 3, 1) := by decide +kernel
theorem dX9_holds_134 : decode cX9_holds 134 = .ok (.iload 7, 2) := by decide +kernel
theorem dX9_holds_136 : decode cX9_holds 136 = .ok (.invokevirtual 203, 3) := by decide +kernel
theorem dX9_holds_139 : decode cX9_holds 139 = .ok (.iadd, 1) := by decide +kernel
theorem dX9_holds_140 : decode cX9_holds 140 = .ok (.isub, 1) := by decide +kernel
theorem dX9_holds_141 : decode cX9_holds 141 = .ok (.istore 8, 2) := by decide +kernel
theorem dX9_holds_143 : decode cX9_holds 143 = .ok (.aload_n 0, 1) := by decide +kernel
theorem dX9_holds_144 : decode cX9_holds 144 = .ok (.getfield 19, 3) := by decide +kernel
theorem dX9_holds_147 : decode cX9_holds 147 = .ok (.iload_n 3, 1) := by decide +kernel
theorem dX9_holds_148 : decode cX9_holds 148 = .ok (.iaload, 1) := by decide +kernel
theorem dX9_holds_149 : decode cX9_holds 149 = .ok (.iconst 2, 1) := by decide +kernel
theorem dX9_holds_150 : decode cX9_holds 150 = .ok (.if_icmp .ne 46, 3) := by decide +kernel
theorem dX9_holds_153 : decode cX9_holds 153 = .ok (.aload_n 0, 1) := by decide +kernel
theorem dX9_holds_154 : decode cX9_holds 154 = .ok (.iload_n 3, 1) := by decide +kernel
theorem dX9_holds_155 : decode cX9_holds 155 = .ok (.iload 4, 2) := by decide +kernel
theorem dX9_holds_157 : decode cX9_holds 157 = .ok (.invokevirtual 206, 3) := by decide +kernel
theorem dX9_holds_160 : decode cX9_holds 160 = .ok (.ifCond .ne 33, 3) := by decide +kernel
theorem dX9_holds_163 : decode cX9_holds 163 = .ok (.aload_n 0, 1) := by decide +kernel
theorem dX9_holds_164 : decode cX9_holds 164 = .ok (.iload_n 3, 1) := by decide +kernel
theorem dX9_holds_165 : decode cX9_holds 165 = .ok (.iload 5, 2) := by decide +kernel
theorem dX9_holds_167 : decode cX9_holds 167 = .ok (.invokevirtual 206, 3) := by decide +kernel
theorem dX9_holds_170 : decode cX9_holds 170 = .ok (.ifCond .ne 23, 3) := by decide +kernel
theorem dX9_holds_173 : decode cX9_holds 173 = .ok (.aload_n 0, 1) := by decide +kernel
theorem dX9_holds_174 : decode cX9_holds 174 = .ok (.iload_n 3, 1) := by decide +kernel
theorem dX9_holds_175 : decode cX9_holds 175 = .ok (.iload 6, 2) := by decide +kernel
theorem dX9_holds_177 : decode cX9_holds 177 = .ok (.invokevirtual 206, 3) := by decide +kernel
theorem dX9_holds_180 : decode cX9_holds 180 = .ok (.ifCond .ne 13, 3) := by decide +kernel
theorem dX9_holds_183 : decode cX9_holds 183 = .ok (.aload_n 0, 1) := by decide +kernel
theorem dX9_holds_184 : decode cX9_holds 184 = .ok (.iload_n 3, 1) := by decide +kernel
theorem dX9_holds_185 : decode cX9_holds 185 = .ok (.iload 7, 2) := by decide +kernel
theorem dX9_holds_187 : decode cX9_holds 187 = .ok (.invokevirtual 206, 3) := by decide +kernel
theorem dX9_holds_190 : decode cX9_holds 190 = .ok (.ifCond .eq 6, 3) := by decide +kernel
theorem dX9_holds_193 : decode cX9_holds 193 = .ok (.iinc 8 2, 3) := by decide +kernel
theorem dX9_holds_196 : decode cX9_holds 196 = .ok (.iload 8, 2) := by decide +kernel
theorem dX9_holds_198 : decode cX9_holds 198 = .ok (.aload_n 0, 1) := by decide +kernel
theorem dX9_holds_199 : decode cX9_holds 199 = .ok (.getfield 19, 3) := by decide +kernel
theorem dX9_holds_202 : decode cX9_holds 202 = .ok (.iload_n 3, 1) := by decide +kernel
theorem dX9_holds_203 : decode cX9_holds 203 = .ok (.iaload, 1) := by decide +kernel
theorem dX9_holds_204 : decode cX9_holds 204 = .ok (.iconst 3, 1) := by decide +kernel
theorem dX9_holds_205 : decode cX9_holds 205 = .ok (.if_icmp .ne 7, 3) := by decide +kernel
theorem dX9_holds_208 : decode cX9_holds 208 = .ok (.iload_n 1, 1) := by decide +kernel
theorem dX9_holds_209 : decode cX9_holds 209 = .ok (.goto 4, 3) := by decide +kernel
theorem dX9_holds_212 : decode cX9_holds 212 = .ok (.iconst 0, 1) := by decide +kernel
theorem dX9_holds_213 : decode cX9_holds 213 = .ok (.isub, 1) := by decide +kernel
theorem dX9_holds_214 : decode cX9_holds 214 = .ok (.istore 8, 2) := by decide +kernel
theorem dX9_holds_216 : decode cX9_holds 216 = .ok (.iload 8, 2) := by decide +kernel
theorem dX9_holds_218 : decode cX9_holds 218 = .ok (.ifCond .le 8, 3) := by decide +kernel
theorem dX9_holds_221 : decode cX9_holds 221 = .ok (.iload 8, 2) := by decide +kernel
theorem dX9_holds_223 : decode cX9_holds 223 = .ok (.goto 4, 3) := by decide +kernel
theorem dX9_holds_226 : decode cX9_holds 226 = .ok (.iconst 0, 1) := by decide +kernel
theorem dX9_holds_227 : decode cX9_holds 227 = .ok (.ireturn, 1) := by decide +kernel
theorem dX9_holdAll_0 : decode cX9_holdAll 0 = .ok (.iconst 0, 1) := by decide +kernel
theorem dX9_holdAll_1 : decode cX9_holdAll 1 = .ok (.istore_n 1, 1) := by decide +kernel
theorem dX9_holdAll_2 : decode cX9_holdAll 2 = .ok (.iload_n 1, 1) := by decide +kernel
theorem dX9_holdAll_3 : decode cX9_holdAll 3 = .ok (.bipush 40, 2) := by decide +kernel
theorem dX9_holdAll_5 : decode cX9_holdAll 5 = .ok (.if_icmp .ge 47, 3) := by decide +kernel
theorem dX9_holdAll_8 : decode cX9_holdAll 8 = .ok (.aload_n 0, 1) := by decide +kernel
theorem dX9_holdAll_9 : decode cX9_holdAll 9 = .ok (.getfield 49, 3) := by decide +kernel
theorem dX9_holdAll_12 : decode cX9_holdAll 12 = .ok (.iload_n 1, 1) := by decide +kernel
theorem dX9_holdAll_13 : decode cX9_holdAll 13 = .ok (.aload_n 0, 1) := by decide +kernel
theorem dX9_holdAll_14 : decode cX9_holdAll 14 = .ok (.iload_n 1, 1) := by decide +kernel
theorem dX9_holdAll_15 : decode cX9_holdAll 15 = .ok (.bipush 8, 2) := by decide +kernel
theorem dX9_holdAll_17 : decode cX9_holdAll 17 = .ok (.idiv, 1) := by decide +kernel
theorem dX9_holdAll_18 : decode cX9_holdAll 18 = .ok (.iload_n 1, 1) := by decide +kernel
theorem dX9_holdAll_19 : decode cX9_holdAll 19 = .ok (.bipush 8, 2) := by decide +kernel
theorem dX9_holdAll_21 : decode cX9_holdAll 21 = .ok (.irem, 1) := by decide +kernel
theorem dX9_holdAll_22 : decode cX9_holdAll 22 = .ok (.invokevirtual 194, 3) := by decide +kernel
theorem dX9_holdAll_25 : decode cX9_holdAll 25 = .ok (.iconst (-1), 1) := by decide +kernel
theorem dX9_holdAll_26 : decode cX9_holdAll 26 = .ok (.if_icmp .ne 7, 3) := by decide +kernel
theorem dX9_holdAll_29 : decode cX9_holdAll 29 = .ok (.iconst (-1), 1) := by decide +kernel
theorem dX9_holdAll_30 : decode cX9_holdAll 30 = .ok (.goto 15, 3) := by decide +kernel
theorem dX9_holdAll_33 : decode cX9_holdAll 33 = .ok (.aload_n 0, 1) := by decide +kernel
theorem dX9_holdAll_34 : decode cX9_holdAll 34 = .ok (.iload_n 1, 1) := by decide +kernel
theorem dX9_holdAll_35 : decode cX9_holdAll 35 = .ok (.bipush 8, 2) := by decide +kernel
theorem dX9_holdAll_37 : decode cX9_holdAll 37 = .ok (.idiv, 1) := by decide +kernel
theorem dX9_holdAll_38 : decode cX9_holdAll 38 = .ok (.iload_n 1, 1) := by decide +kernel
theorem dX9_holdAll_39 : decode cX9_holdAll 39 = .ok (.bipush 8, 2) := by decide +kernel
theorem dX9_holdAll_41 : decode cX9_holdAll 41 = .ok (.irem, 1) := by decide +kernel
theorem dX9_holdAll_42 : decode cX9_holdAll 42 = .ok (.invokevirtual 209, 3) := by decide +kernel
theorem dX9_holdAll_45 : decode cX9_holdAll 45 = .ok (.iastore, 1) := by decide +kernel
theorem dX9_holdAll_46 : decode cX9_holdAll 46 = .ok (.iinc 1 1, 3) := by decide +kernel
theorem dX9_holdAll_49 : decode cX9_holdAll 49 = .ok (.goto (-47), 3) := by decide +kernel
theorem dX9_holdAll_52 : decode cX9_holdAll 52 = .ok (.return_, 1) := by decide +kernel
theorem dX9_drops_0 : decode cX9_drops 0 = .ok (.aload_n 0, 1) := by decide +kernel
theorem dX9_drops_1 : decode cX9_drops 1 = .ok (.getfield 52, 3) := by decide +kernel
theorem dX9_drops_4 : decode cX9_drops 4 = .ok (.aload_n 0, 1) := by decide +kernel
theorem dX9_drops_5 : decode cX9_drops 5 = .ok (.getfield 40, 3) := by decide +kernel
theorem dX9_drops_8 : decode cX9_drops 8 = .ok (.iload_n 1, 1) := by decide +kernel
theorem dX9_drops_9 : decode cX9_drops 9 = .ok (.iaload, 1) := by decide +kernel
theorem dX9_drops_10 : decode cX9_drops 10 = .ok (.dup2, 1) := by decide +kernel
theorem dX9_drops_11 : decode cX9_drops 11 = .ok (.iaload, 1) := by decide +kernel
theorem dX9_drops_12 : decode cX9_drops 12 = .ok (.iconst 1, 1) := by decide +kernel
theorem dX9_drops_13 : decode cX9_drops 13 = .ok (.iadd, 1) := by decide +kernel
theorem dX9_drops_14 : decode cX9_drops 14 = .ok (.iastore, 1) := by decide +kernel
theorem dX9_drops_15 : decode cX9_drops 15 = .ok (.aload_n 0, 1) := by decide +kernel
theorem dX9_drops_16 : decode cX9_drops 16 = .ok (.getfield 40, 3) := by decide +kernel
theorem dX9_drops_19 : decode cX9_drops 19 = .ok (.iload_n 1, 1) := by decide +kernel
theorem dX9_drops_20 : decode cX9_drops 20 = .ok (.iconst (-1), 1) := by decide +kernel
theorem dX9_drops_21 : decode cX9_drops 21 = .ok (.iastore, 1) := by decide +kernel
theorem dX9_drops_22 : decode cX9_drops 22 = .ok (.aload_n 0, 1) := by decide +kernel
theorem dX9_drops_23 : decode cX9_drops 23 = .ok (.dup, 1) := by decide +kernel
theorem dX9_drops_24 : decode cX9_drops 24 = .ok (.getfield 212, 3) := by decide +kernel
theorem dX9_drops_27 : decode cX9_drops 27 = .ok (.iconst 1, 1) := by decide +kernel
theorem dX9_drops_28 : decode cX9_drops 28 = .ok (.iadd, 1) := by decide +kernel
theorem dX9_drops_29 : decode cX9_drops 29 = .ok (.putfield 212, 3) := by decide +kernel
theorem dX9_drops_32 : decode cX9_drops 32 = .ok (.return_, 1) := by decide +kernel
theorem dX9_settles_0 : decode cX9_settles 0 = .ok (.bipush 8, 2) := by decide +kernel
theorem dX9_settles_2 : decode cX9_settles 2 = .ok (.istore_n 1, 1) := by decide +kernel
theorem dX9_settles_3 : decode cX9_settles 3 = .ok (.iload_n 1, 1) := by decide +kernel
theorem dX9_settles_4 : decode cX9_settles 4 = .ok (.bipush 40, 2) := by decide +kernel
theorem dX9_settles_6 : decode cX9_settles 6 = .ok (.if_icmp .ge 45, 3) := by decide +kernel
theorem dX9_settles_9 : decode cX9_settles 9 = .ok (.aload_n 0, 1) := by decide +kernel
theorem dX9_settles_10 : decode cX9_settles 10 = .ok (.iload_n 1, 1) := by decide +kernel
theorem dX9_settles_11 : decode cX9_settles 11 = .ok (.bipush 8, 2) := by decide +kernel
theorem dX9_settles_13 : decode cX9_settles 13 = .ok (.idiv, 1) := by decide +kernel
theorem dX9_settles_14 : decode cX9_settles 14 = .ok (.iload_n 1, 1) := by decide +kernel
theorem dX9_settles_15 : decode cX9_settles 15 = .ok (.bipush 8, 2) := by decide +kernel
theorem dX9_settles_17 : decode cX9_settles 17 = .ok (.irem, 1) := by decide +kernel
theorem dX9_settles_18 : decode cX9_settles 18 = .ok (.invokevirtual 194, 3) := by decide +kernel
theorem dX9_settles_21 : decode cX9_settles 21 = .ok (.iconst (-1), 1) := by decide +kernel
theorem dX9_settles_22 : decode cX9_settles 22 = .ok (.if_icmp .eq 23, 3) := by decide +kernel
theorem dX9_settles_25 : decode cX9_settles 25 = .ok (.aload_n 0, 1) := by decide +kernel
theorem dX9_settles_26 : decode cX9_settles 26 = .ok (.iload_n 1, 1) := by decide +kernel
theorem dX9_settles_27 : decode cX9_settles 27 = .ok (.bipush 8, 2) := by decide +kernel
theorem dX9_settles_29 : decode cX9_settles 29 = .ok (.idiv, 1) := by decide +kernel
theorem dX9_settles_30 : decode cX9_settles 30 = .ok (.iload_n 1, 1) := by decide +kernel
theorem dX9_settles_31 : decode cX9_settles 31 = .ok (.bipush 8, 2) := by decide +kernel
theorem dX9_settles_33 : decode cX9_settles 33 = .ok (.irem, 1) := by decide +kernel
theorem dX9_settles_34 : decode cX9_settles 34 = .ok (.invokevirtual 215, 3) := by decide +kernel
theorem dX9_settles_37 : decode cX9_settles 37 = .ok (.ifCond .ne 8, 3) := by decide +kernel
theorem dX9_settles_40 : decode cX9_settles 40 = .ok (.aload_n 0, 1) := by decide +kernel
theorem dX9_settles_41 : decode cX9_settles 41 = .ok (.iload_n 1, 1) := by decide +kernel
theorem dX9_settles_42 : decode cX9_settles 42 = .ok (.invokevirtual 218, 3) := by decide +kernel
theorem dX9_settles_45 : decode cX9_settles 45 = .ok (.iinc 1 1, 3) := by decide +kernel
theorem dX9_settles_48 : decode cX9_settles 48 = .ok (.goto (-45), 3) := by decide +kernel
theorem dX9_settles_51 : decode cX9_settles 51 = .ok (.return_, 1) := by decide +kernel
theorem dX9_freezes_0 : decode cX9_freezes 0 = .ok (.aload_n 0, 1) := by decide +kernel
theorem dX9_freezes_1 : decode cX9_freezes 1 = .ok (.invokevirtual 222, 3) := by decide +kernel
theorem dX9_freezes_4 : decode cX9_freezes 4 = .ok (.iconst 0, 1) := by decide +kernel
theorem dX9_freezes_5 : decode cX9_freezes 5 = .ok (.istore_n 2, 1) := by decide +kernel
theorem dX9_freezes_6 : decode cX9_freezes 6 = .ok (.iload_n 2, 1) := by decide +kernel
theorem dX9_freezes_7 : decode cX9_freezes 7 = .ok (.bipush 40, 2) := by decide +kernel
theorem dX9_freezes_9 : decode cX9_freezes 9 = .ok (.if_icmp .ge 34, 3) := by decide +kernel
theorem dX9_freezes_12 : decode cX9_freezes 12 = .ok (.aload_n 0, 1) := by decide +kernel
theorem dX9_freezes_13 : decode cX9_freezes 13 = .ok (.getfield 49, 3) := by decide +kernel
theorem dX9_freezes_16 : decode cX9_freezes 16 = .ok (.iload_n 2, 1) := by decide +kernel
theorem dX9_freezes_17 : decode cX9_freezes 17 = .ok (.iaload, 1) := by decide +kernel
theorem dX9_freezes_18 : decode cX9_freezes 18 = .ok (.iconst (-1), 1) := by decide +kernel
theorem dX9_freezes_19 : decode cX9_freezes 19 = .ok (.if_icmp .eq 18, 3) := by decide +kernel
theorem dX9_freezes_22 : decode cX9_freezes 22 = .ok (.aload_n 0, 1) := by decide +kernel
theorem dX9_freezes_23 : decode cX9_freezes 23 = .ok (.getfield 49, 3) := by decide +kernel
theorem dX9_freezes_26 : decode cX9_freezes 26 = .ok (.iload_n 2, 1) := by decide +kernel
theorem dX9_freezes_27 : decode cX9_freezes 27 = .ok (.iaload, 1) := by decide +kernel
theorem dX9_freezes_28 : decode cX9_freezes 28 = .ok (.iload_n 1, 1) := by decide +kernel
theorem dX9_freezes_29 : decode cX9_freezes 29 = .ok (.if_icmp .ge 8, 3) := by decide +kernel
theorem dX9_freezes_32 : decode cX9_freezes 32 = .ok (.aload_n 0, 1) := by decide +kernel
theorem dX9_freezes_33 : decode cX9_freezes 33 = .ok (.iload_n 2, 1) := by decide +kernel
theorem dX9_freezes_34 : decode cX9_freezes 34 = .ok (.invokevirtual 218, 3) := by decide +kernel
theorem dX9_freezes_37 : decode cX9_freezes 37 = .ok (.iinc 2 1, 3) := by decide +kernel
theorem dX9_freezes_40 : decode cX9_freezes 40 = .ok (.goto (-34), 3) := by decide +kernel
theorem dX9_freezes_43 : decode cX9_freezes 43 = .ok (.aload_n 0, 1) := by decide +kernel
theorem dX9_freezes_44 : decode cX9_freezes 44 = .ok (.invokevirtual 225, 3) := by decide +kernel
theorem dX9_freezes_47 : decode cX9_freezes 47 = .ok (.return_, 1) := by decide +kernel
theorem dX9_mends_0 : decode cX9_mends 0 = .ok (.iconst 0, 1) := by decide +kernel
theorem dX9_mends_1 : decode cX9_mends 1 = .ok (.istore_n 3, 1) := by decide +kernel
theorem dX9_mends_2 : decode cX9_mends 2 = .ok (.iload_n 3, 1) := by decide +kernel
theorem dX9_mends_3 : decode cX9_mends 3 = .ok (.aload_n 0, 1) := by decide +kernel
theorem dX9_mends_4 : decode cX9_mends 4 = .ok (.getfield 118, 3) := by decide +kernel
theorem dX9_mends_7 : decode cX9_mends 7 = .ok (.if_icmp .ge 58, 3) := by decide +kernel
theorem dX9_mends_10 : decode cX9_mends 10 = .ok (.iload_n 1, 1) := by decide +kernel
theorem dX9_mends_11 : decode cX9_mends 11 = .ok (.aload_n 0, 1) := by decide +kernel
theorem dX9_mends_12 : decode cX9_mends 12 = .ok (.getfield 121, 3) := by decide +kernel
theorem dX9_mends_15 : decode cX9_mends 15 = .ok (.if_icmp .ge 50, 3) := by decide +kernel
theorem dX9_mends_18 : decode cX9_mends 18 = .ok (.aload_n 0, 1) := by decide +kernel
theorem dX9_mends_19 : decode cX9_mends 19 = .ok (.getfield 40, 3) := by decide +kernel
theorem dX9_mends_22 : decode cX9_mends 22 = .ok (.bipush 8, 2) := by decide +kernel
theorem dX9_mends_24 : decode cX9_mends 24 = .ok (.iload_n 3, 1) := by decide +kernel
theorem dX9_mends_25 : decode cX9_mends 25 = .ok (.imul, 1) := by decide +kernel
theorem dX9_mends_26 : decode cX9_mends 26 = .ok (.iload_n 1, 1) := by decide +kernel
theorem dX9_mends_27 : decode cX9_mends 27 = .ok (.iadd, 1) := by decide +kernel
theorem dX9_mends_28 : decode cX9_mends 28 = .ok (.iaload, 1) := by decide +kernel
theorem dX9_mends_29 : decode cX9_mends 29 = .ok (.iconst (-1), 1) := by decide +kernel
theorem dX9_mends_30 : decode cX9_mends 30 = .ok (.if_icmp .ne 29, 3) := by decide +kernel
theorem dX9_mends_33 : decode cX9_mends 33 = .ok (.aload_n 0, 1) := by decide +kernel
theorem dX9_mends_34 : decode cX9_mends 34 = .ok (.getfield 40, 3) := by decide +kernel
theorem dX9_mends_37 : decode cX9_mends 37 = .ok (.bipush 8, 2) := by decide +kernel
theorem dX9_mends_39 : decode cX9_mends 39 = .ok (.iload_n 3, 1) := by decide +kernel
theorem dX9_mends_40 : decode cX9_mends 40 = .ok (.imul, 1) := by decide +kernel
theorem dX9_mends_41 : decode cX9_mends 41 = .ok (.iload_n 1, 1) := by decide +kernel
theorem dX9_mends_42 : decode cX9_mends 42 = .ok (.iadd, 1) := by decide +kernel
theorem dX9_mends_43 : decode cX9_mends 43 = .ok (.aload_n 0, 1) := by decide +kernel
theorem dX9_mends_44 : decode cX9_mends 44 = .ok (.iload_n 3, 1) := by decide +kernel
theorem dX9_mends_45 : decode cX9_mends 45 = .ok (.iload_n 1, 1) := by decide +kernel
theorem dX9_mends_46 : decode cX9_mends 46 = .ok (.invokevirtual 215, 3) := by decide +kernel
theorem dX9_mends_49 : decode cX9_mends 49 = .ok (.ifCond .eq 7, 3) := by decide +kernel
theorem dX9_mends_52 : decode cX9_mends 52 = .ok (.iload_n 2, 1) := by decide +kernel
theorem dX9_mends_53 : decode cX9_mends 53 = .ok (.goto 4, 3) := by decide +kernel
theorem dX9_mends_56 : decode cX9_mends 56 = .ok (.iconst (-1), 1) := by decide +kernel
theorem dX9_mends_57 : decode cX9_mends 57 = .ok (.iastore, 1) := by decide +kernel
theorem dX9_mends_58 : decode cX9_mends 58 = .ok (.return_, 1) := by decide +kernel
theorem dX9_mends_59 : decode cX9_mends 59 = .ok (.iinc 3 1, 3) := by decide +kernel
theorem dX9_mends_62 : decode cX9_mends 62 = .ok (.goto (-60), 3) := by decide +kernel
theorem dX9_mends_65 : decode cX9_mends 65 = .ok (.return_, 1) := by decide +kernel
theorem dX9_isThrough_0 : decode cX9_isThrough 0 = .ok (.iconst 0, 1) := by decide +kernel
theorem dX9_isThrough_1 : decode cX9_isThrough 1 = .ok (.istore_n 3, 1) := by decide +kernel
theorem dX9_isThrough_2 : decode cX9_isThrough 2 = .ok (.iconst 0, 1) := by decide +kernel
theorem dX9_isThrough_3 : decode cX9_isThrough 3 = .ok (.istore 4, 2) := by decide +kernel
theorem dX9_isThrough_5 : decode cX9_isThrough 5 = .ok (.iconst 0, 1) := by decide +kernel
theorem dX9_isThrough_6 : decode cX9_isThrough 6 = .ok (.istore 5, 2) := by decide +kernel
theorem dX9_isThrough_8 : decode cX9_isThrough 8 = .ok (.iload 5, 2) := by decide +kernel
theorem dX9_isThrough_10 : decode cX9_isThrough 10 = .ok (.aload_n 0, 1) := by decide +kernel
theorem dX9_isThrough_11 : decode cX9_isThrough 11 = .ok (.getfield 118, 3) := by decide +kernel
theorem dX9_isThrough_14 : decode cX9_isThrough 14 = .ok (.if_icmp .ge 80, 3) := by decide +kernel
theorem dX9_isThrough_17 : decode cX9_isThrough 17 = .ok (.aload_n 0, 1) := by decide +kernel
theorem dX9_isThrough_18 : decode cX9_isThrough 18 = .ok (.getfield 40, 3) := by decide +kernel
theorem dX9_isThrough_21 : decode cX9_isThrough 21 = .ok (.bipush 8, 2) := by decide +kernel
theorem dX9_isThrough_23 : decode cX9_isThrough 23 = .ok (.iload 5, 2) := by decide +kernel
theorem dX9_isThrough_25 : decode cX9_isThrough 25 = .ok (.imul, 1) := by decide +kernel
theorem dX9_isThrough_26 : decode cX9_isThrough 26 = .ok (.iload_n 1, 1) := by decide +kernel
theorem dX9_isThrough_27 : decode cX9_isThrough 27 = .ok (.iadd, 1) := by decide +kernel
theorem dX9_isThrough_28 : decode cX9_isThrough 28 = .ok (.iaload, 1) := by decide +kernel
theorem dX9_isThrough_29 : decode cX9_isThrough 29 = .ok (.istore 6, 2) := by decide +kernel
theorem dX9_isThrough_31 : decode cX9_isThrough 31 = .ok (.iload_n 3, 1) := by decide +kernel
theorem dX9_isThrough_32 : decode cX9_isThrough 32 = .ok (.ifCond .ne 12, 3) := by decide +kernel
theorem dX9_isThrough_35 : decode cX9_isThrough 35 = .ok (.aload_n 0, 1) := by decide +kernel
theorem dX9_isThrough_36 : decode cX9_isThrough 36 = .ok (.iload 6, 2) := by decide +kernel
theorem dX9_isThrough_38 : decode cX9_isThrough 38 = .ok (.invokevirtual 197, 3) := by decide +kernel
theorem dX9_isThrough_41 : decode cX9_isThrough 41 = .ok (.ifCond .eq 7, 3) := by decide +kernel
theorem dX9_isThrough_44 : decode cX9_isThrough 44 = .ok (.iconst 1, 1) := by decide +kernel
theorem dX9_isThrough_45 : decode cX9_isThrough 45 = .ok (.goto 4, 3) := by decide +kernel
theorem dX9_isThrough_48 : decode cX9_isThrough 48 = .ok (.iconst 0, 1) := by decide +kernel
theorem dX9_isThrough_49 : decode cX9_isThrough 49 = .ok (.istore_n 3, 1) := by decide +kernel
theorem dX9_isThrough_50 : decode cX9_isThrough 50 = .ok (.iload 4, 2) := by decide +kernel
theorem dX9_isThrough_52 : decode cX9_isThrough 52 = .ok (.ifCond .ne 29, 3) := by decide +kernel
theorem dX9_isThrough_55 : decode cX9_isThrough 55 = .ok (.iload 6, 2) := by decide +kernel
theorem dX9_isThrough_57 : decode cX9_isThrough 57 = .ok (.iconst (-1), 1) := by decide +kernel
theorem dX9_isThrough_58 : decode cX9_isThrough 58 = .ok (.if_icmp .eq 27, 3) := by decide +kernel
theorem dX9_isThrough_61 : decode cX9_isThrough 61 = .ok (.iload 6, 2) := by decide +kernel
theorem dX9_isThrough_63 : decode cX9_isThrough 63 = .ok (.aload_n 0, 1) := by decide +kernel
theorem dX9_isThrough_64 : decode cX9_isThrough 64 = .ok (.getfield 135, 3) := by decide +kernel
theorem dX9_isThrough_67 : decode cX9_isThrough 67 = .ok (.if_icmp .ge 18, 3) := by decide +kernel
theorem dX9_isThrough_70 : decode cX9_isThrough 70 = .ok (.aload_n 0, 1) := by decide +kernel
theorem dX9_isThrough_71 : decode cX9_isThrough 71 = .ok (.getfield 19, 3) := by decide +kernel
theorem dX9_isThrough_74 : decode cX9_isThrough 74 = .ok (.iload 6, 2) := by decide +kernel
theorem dX9_isThrough_76 : decode cX9_isThrough 76 = .ok (.iaload, 1) := by decide +kernel
theorem dX9_isThrough_77 : decode cX9_isThrough 77 = .ok (.iconst 1, 1) := by decide +kernel
theorem dX9_isThrough_78 : decode cX9_isThrough 78 = .ok (.if_icmp .ne 7, 3) := by decide +kernel
theorem dX9_isThrough_81 : decode cX9_isThrough 81 = .ok (.iconst 1, 1) := by decide +kernel
theorem dX9_isThrough_82 : decode cX9_isThrough 82 = .ok (.goto 4, 3) := by decide +kernel
theorem dX9_isThrough_85 : decode cX9_isThrough 85 = .ok (.iconst 0, 1) := by decide +kernel
theorem dX9_isThrough_86 : decode cX9_isThrough 86 = .ok (.istore 4, 2) := by decide +kernel
theorem dX9_isThrough_88 : decode cX9_isThrough 88 = .ok (.iinc 5 1, 3) := by decide +kernel
theorem dX9_isThrough_91 : decode cX9_isThrough 91 = .ok (.goto (-83), 3) := by decide +kernel
theorem dX9_isThrough_94 : decode cX9_isThrough 94 = .ok (.iload 4, 2) := by decide +kernel
theorem dX9_isThrough_96 : decode cX9_isThrough 96 = .ok (.ifCond .ne 27, 3) := by decide +kernel
theorem dX9_isThrough_99 : decode cX9_isThrough 99 = .ok (.iload_n 2, 1) := by decide +kernel
theorem dX9_isThrough_100 : decode cX9_isThrough 100 = .ok (.aload_n 0, 1) := by decide +kernel
theorem dX9_isThrough_101 : decode cX9_isThrough 101 = .ok (.getfield 101, 3) := by decide +kernel
theorem dX9_isThrough_104 : decode cX9_isThrough 104 = .ok (.if_icmp .lt 15, 3) := by decide +kernel
theorem dX9_isThrough_107 : decode cX9_isThrough 107 = .ok (.iload_n 2, 1) := by decide +kernel
theorem dX9_isThrough_108 : decode cX9_isThrough 108 = .ok (.aload_n 0, 1) := by decide +kernel
theorem dX9_isThrough_109 : decode cX9_isThrough 109 = .ok (.getfield 101, 3) := by decide +kernel
theorem dX9_isThrough_112 : decode cX9_isThrough 112 = .ok (.if_icmp .ne 11, 3) := by decide +kernel
theorem dX9_isThrough_115 : decode cX9_isThrough 115 = .ok (.iload_n 3, 1) := by decide +kernel
theorem dX9_isThrough_116 : decode cX9_isThrough 116 = .ok (.ifCond .eq 7, 3) := by decide +kernel
theorem dX9_isThrough_119 : decode cX9_isThrough 119 = .ok (.iconst 1, 1) := by decide +kernel
theorem dX9_isThrough_120 : decode cX9_isThrough 120 = .ok (.goto 4, 3) := by decide +kernel
theorem dX9_isThrough_123 : decode cX9_isThrough 123 = .ok (.iconst 0, 1) := by decide +kernel
theorem dX9_isThrough_124 : decode cX9_isThrough 124 = .ok (.ireturn, 1) := by decide +kernel
theorem dX9_keeps_0 : decode cX9_keeps 0 = .ok (.iconst 0, 1) := by decide +kernel
theorem dX9_keeps_1 : decode cX9_keeps 1 = .ok (.istore_n 2, 1) := by decide +kernel
theorem dX9_keeps_2 : decode cX9_keeps 2 = .ok (.aload_n 0, 1) := by decide +kernel
theorem dX9_keeps_3 : decode cX9_keeps 3 = .ok (.invokevirtual 222, 3) := by decide +kernel
theorem dX9_keeps_6 : decode cX9_keeps 6 = .ok (.aload_n 0, 1) := by decide +kernel
theorem dX9_keeps_7 : decode cX9_keeps 7 = .ok (.getfield 64, 3) := by decide +kernel
theorem dX9_keeps_10 : decode cX9_keeps 10 = .ok (.iload_n 1, 1) := by decide +kernel
theorem dX9_keeps_11 : decode cX9_keeps 11 = .ok (.iconst 0, 1) := by decide +kernel
theorem dX9_keeps_12 : decode cX9_keeps 12 = .ok (.iastore, 1) := by decide +kernel
theorem dX9_keeps_13 : decode cX9_keeps 13 = .ok (.iconst 0, 1) := by decide +kernel
theorem dX9_keeps_14 : decode cX9_keeps 14 = .ok (.istore_n 3, 1) := by decide +kernel
theorem dX9_keeps_15 : decode cX9_keeps 15 = .ok (.iload_n 3, 1) := by decide +kernel
theorem dX9_keeps_16 : decode cX9_keeps 16 = .ok (.bipush 40, 2) := by decide +kernel
theorem dX9_keeps_18 : decode cX9_keeps 18 = .ok (.if_icmp .ge 73, 3) := by decide +kernel
theorem dX9_keeps_21 : decode cX9_keeps 21 = .ok (.aload_n 0, 1) := by decide +kernel
theorem dX9_keeps_22 : decode cX9_keeps 22 = .ok (.getfield 55, 3) := by decide +kernel
theorem dX9_keeps_25 : decode cX9_keeps 25 = .ok (.bipush 40, 2) := by decide +kernel
theorem dX9_keeps_27 : decode cX9_keeps 27 = .ok (.iload_n 1, 1) := by decide +kernel
theorem dX9_keeps_28 : decode cX9_keeps 28 = .ok (.imul, 1) := by decide +kernel
theorem dX9_keeps_29 : decode cX9_keeps 29 = .ok (.iload_n 3, 1) := by decide +kernel
theorem dX9_keeps_30 : decode cX9_keeps 30 = .ok (.iadd, 1) := by decide +kernel
theorem dX9_keeps_31 : decode cX9_keeps 31 = .ok (.aload_n 0, 1) := by decide +kernel
theorem dX9_keeps_32 : decode cX9_keeps 32 = .ok (.iload_n 3, 1) := by decide +kernel
theorem dX9_keeps_33 : decode cX9_keeps 33 = .ok (.bipush 8, 2) := by decide +kernel
theorem dX9_keeps_35 : decode cX9_keeps 35 = .ok (.idiv, 1) := by decide +kernel
theorem dX9_keeps_36 : decode cX9_keeps 36 = .ok (.iload_n 3, 1) := by decide +kernel
theorem dX9_keeps_37 : decode cX9_keeps 37 = .ok (.bipush 8, 2) := by decide +kernel
theorem dX9_keeps_39 : decode cX9_keeps 39 = .ok (.irem, 1) := by decide +kernel
theorem dX9_keeps_40 : decode cX9_keeps 40 = .ok (.invokevirtual 194, 3) := by decide +kernel
theorem dX9_keeps_43 : decode cX9_keeps 43 = .ok (.iastore, 1) := by decide +kernel
theorem dX9_keeps_44 : decode cX9_keeps 44 = .ok (.aload_n 0, 1) := by decide +kernel
theorem dX9_keeps_45 : decode cX9_keeps 45 = .ok (.getfield 58, 3) := by decide +kernel
theorem dX9_keeps_48 : decode cX9_keeps 48 = .ok (.bipush 40, 2) := by decide +kernel
theorem dX9_keeps_50 : decode cX9_keeps 50 = .ok (.iload_n 1, 1) := by decide +kernel
theorem dX9_keeps_51 : decode cX9_keeps 51 = .ok (.imul, 1) := by decide +kernel
theorem dX9_keeps_52 : decode cX9_keeps 52 = .ok (.iload_n 3, 1) := by decide +kernel
theorem dX9_keeps_53 : decode cX9_keeps 53 = .ok (.iadd, 1) := by decide +kernel
theorem dX9_keeps_54 : decode cX9_keeps 54 = .ok (.aload_n 0, 1) := by decide +kernel
theorem dX9_keeps_55 : decode cX9_keeps 55 = .ok (.getfield 49, 3) := by decide +kernel
theorem dX9_keeps_58 : decode cX9_keeps 58 = .ok (.iload_n 3, 1) := by decide +kernel
theorem dX9_keeps_59 : decode cX9_keeps 59 = .ok (.iaload, 1) := by decide +kernel
theorem dX9_keeps_60 : decode cX9_keeps 60 = .ok (.iastore, 1) := by decide +kernel
theorem dX9_keeps_61 : decode cX9_keeps 61 = .ok (.aload_n 0, 1) := by decide +kernel
theorem dX9_keeps_62 : decode cX9_keeps 62 = .ok (.getfield 64, 3) := by decide +kernel
theorem dX9_keeps_65 : decode cX9_keeps 65 = .ok (.iload_n 1, 1) := by decide +kernel
theorem dX9_keeps_66 : decode cX9_keeps 66 = .ok (.dup2, 1) := by decide +kernel
theorem dX9_keeps_67 : decode cX9_keeps 67 = .ok (.iaload, 1) := by decide +kernel
theorem dX9_keeps_68 : decode cX9_keeps 68 = .ok (.aload_n 0, 1) := by decide +kernel
theorem dX9_keeps_69 : decode cX9_keeps 69 = .ok (.getfield 49, 3) := by decide +kernel
theorem dX9_keeps_72 : decode cX9_keeps 72 = .ok (.iload_n 3, 1) := by decide +kernel
theorem dX9_keeps_73 : decode cX9_keeps 73 = .ok (.iaload, 1) := by decide +kernel
theorem dX9_keeps_74 : decode cX9_keeps 74 = .ok (.iconst (-1), 1) := by decide +kernel
theorem dX9_keeps_75 : decode cX9_keeps 75 = .ok (.if_icmp .ne 7, 3) := by decide +kernel
theorem dX9_keeps_78 : decode cX9_keeps 78 = .ok (.iconst 0, 1) := by decide +kernel
theorem dX9_keeps_79 : decode cX9_keeps 79 = .ok (.goto 4, 3) := by decide +kernel
theorem dX9_keeps_82 : decode cX9_keeps 82 = .ok (.iconst 1, 1) := by decide +kernel
theorem dX9_keeps_83 : decode cX9_keeps 83 = .ok (.iadd, 1) := by decide +kernel
theorem dX9_keeps_84 : decode cX9_keeps 84 = .ok (.iastore, 1) := by decide +kernel
theorem dX9_keeps_85 : decode cX9_keeps 85 = .ok (.iinc 3 1, 3) := by decide +kernel
theorem dX9_keeps_88 : decode cX9_keeps 88 = .ok (.goto (-73), 3) := by decide +kernel
theorem dX9_keeps_91 : decode cX9_keeps 91 = .ok (.iconst 0, 1) := by decide +kernel
theorem dX9_keeps_92 : decode cX9_keeps 92 = .ok (.istore_n 3, 1) := by decide +kernel
theorem dX9_keeps_93 : decode cX9_keeps 93 = .ok (.iload_n 3, 1) := by decide +kernel
theorem dX9_keeps_94 : decode cX9_keeps 94 = .ok (.aload_n 0, 1) := by decide +kernel
theorem dX9_keeps_95 : decode cX9_keeps 95 = .ok (.getfield 121, 3) := by decide +kernel
theorem dX9_keeps_98 : decode cX9_keeps 98 = .ok (.if_icmp .ge 111, 3) := by decide +kernel
theorem dX9_keeps_101 : decode cX9_keeps 101 = .ok (.iconst 0, 1) := by decide +kernel
theorem dX9_keeps_102 : decode cX9_keeps 102 = .ok (.istore 4, 2) := by decide +kernel
theorem dX9_keeps_104 : decode cX9_keeps 104 = .ok (.iconst 0, 1) := by decide +kernel
theorem dX9_keeps_105 : decode cX9_keeps 105 = .ok (.istore 5, 2) := by decide +kernel
theorem dX9_keeps_107 : decode cX9_keeps 107 = .ok (.iload 5, 2) := by decide +kernel
theorem dX9_keeps_109 : decode cX9_keeps 109 = .ok (.aload_n 0, 1) := by decide +kernel
theorem dX9_keeps_110 : decode cX9_keeps 110 = .ok (.getfield 118, 3) := by decide +kernel
theorem dX9_keeps_113 : decode cX9_keeps 113 = .ok (.if_icmp .ge 35, 3) := by decide +kernel
theorem dX9_keeps_116 : decode cX9_keeps 116 = .ok (.iload 4, 2) := by decide +kernel
theorem dX9_keeps_118 : decode cX9_keeps 118 = .ok (.aload_n 0, 1) := by decide +kernel
theorem dX9_keeps_119 : decode cX9_keeps 119 = .ok (.getfield 40, 3) := by decide +kernel
theorem dX9_keeps_122 : decode cX9_keeps 122 = .ok (.bipush 8, 2) := by decide +kernel
theorem dX9_keeps_124 : decode cX9_keeps 124 = .ok (.iload 5, 2) := by decide +kernel
theorem dX9_keeps_126 : decode cX9_keeps 126 = .ok (.imul, 1) := by decide +kernel
theorem dX9_keeps_127 : decode cX9_keeps 127 = .ok (.iload_n 3, 1) := by decide +kernel
theorem dX9_keeps_128 : decode cX9_keeps 128 = .ok (.iadd, 1) := by decide +kernel
theorem dX9_keeps_129 : decode cX9_keeps 129 = .ok (.iaload, 1) := by decide +kernel
theorem dX9_keeps_130 : decode cX9_keeps 130 = .ok (.iconst (-1), 1) := by decide +kernel
theorem dX9_keeps_131 : decode cX9_keeps 131 = .ok (.if_icmp .ne 7, 3) := by decide +kernel
theorem dX9_keeps_134 : decode cX9_keeps 134 = .ok (.iconst 0, 1) := by decide +kernel
theorem dX9_keeps_135 : decode cX9_keeps 135 = .ok (.goto 4, 3) := by decide +kernel
theorem dX9_keeps_138 : decode cX9_keeps 138 = .ok (.iconst 1, 1) := by decide +kernel
theorem dX9_keeps_139 : decode cX9_keeps 139 = .ok (.iadd, 1) := by decide +kernel
theorem dX9_keeps_140 : decode cX9_keeps 140 = .ok (.istore 4, 2) := by decide +kernel
theorem dX9_keeps_142 : decode cX9_keeps 142 = .ok (.iinc 5 1, 3) := by decide +kernel
theorem dX9_keeps_145 : decode cX9_keeps 145 = .ok (.goto (-38), 3) := by decide +kernel
theorem dX9_keeps_148 : decode cX9_keeps 148 = .ok (.aload_n 0, 1) := by decide +kernel
theorem dX9_keeps_149 : decode cX9_keeps 149 = .ok (.getfield 67, 3) := by decide +kernel
theorem dX9_keeps_152 : decode cX9_keeps 152 = .ok (.bipush 8, 2) := by decide +kernel
theorem dX9_keeps_154 : decode cX9_keeps 154 = .ok (.iload_n 1, 1) := by decide +kernel
theorem dX9_keeps_155 : decode cX9_keeps 155 = .ok (.imul, 1) := by decide +kernel
theorem dX9_keeps_156 : decode cX9_keeps 156 = .ok (.iload_n 3, 1) := by decide +kernel
theorem dX9_keeps_157 : decode cX9_keeps 157 = .ok (.iadd, 1) := by decide +kernel
theorem dX9_keeps_158 : decode cX9_keeps 158 = .ok (.iload 4, 2) := by decide +kernel
theorem dX9_keeps_160 : decode cX9_keeps 160 = .ok (.iastore, 1) := by decide +kernel
theorem dX9_keeps_161 : decode cX9_keeps 161 = .ok (.aload_n 0, 1) := by decide +kernel
theorem dX9_keeps_162 : decode cX9_keeps 162 = .ok (.getfield 70, 3) := by decide +kernel
theorem dX9_keeps_165 : decode cX9_keeps 165 = .ok (.bipush 8, 2) := by decide +kernel
theorem dX9_keeps_167 : decode cX9_keeps 167 = .ok (.iload_n 1, 1) := by decide +kernel
theorem dX9_keeps_168 : decode cX9_keeps 168 = .ok (.imul, 1) := by decide +kernel
theorem dX9_keeps_169 : decode cX9_keeps 169 = .ok (.iload_n 3, 1) := by decide +kernel
theorem dX9_keeps_170 : decode cX9_keeps 170 = .ok (.iadd, 1) := by decide +kernel
theorem dX9_keeps_171 : decode cX9_keeps 171 = .ok (.aload_n 0, 1) := by decide +kernel
theorem dX9_keeps_172 : decode cX9_keeps 172 = .ok (.iload_n 3, 1) := by decide +kernel
theorem dX9_keeps_173 : decode cX9_keeps 173 = .ok (.iload 4, 2) := by decide +kernel
theorem dX9_keeps_175 : decode cX9_keeps 175 = .ok (.invokevirtual 228, 3) := by decide +kernel
theorem dX9_keeps_178 : decode cX9_keeps 178 = .ok (.bastore, 1) := by decide +kernel
theorem dX9_keeps_179 : decode cX9_keeps 179 = .ok (.iload_n 2, 1) := by decide +kernel
theorem dX9_keeps_180 : decode cX9_keeps 180 = .ok (.ifCond .ne 17, 3) := by decide +kernel
theorem dX9_keeps_183 : decode cX9_keeps 183 = .ok (.aload_n 0, 1) := by decide +kernel
theorem dX9_keeps_184 : decode cX9_keeps 184 = .ok (.getfield 70, 3) := by decide +kernel
theorem dX9_keeps_187 : decode cX9_keeps 187 = .ok (.bipush 8, 2) := by decide +kernel
theorem dX9_keeps_189 : decode cX9_keeps 189 = .ok (.iload_n 1, 1) := by decide +kernel
theorem dX9_keeps_190 : decode cX9_keeps 190 = .ok (.imul, 1) := by decide +kernel
theorem dX9_keeps_191 : decode cX9_keeps 191 = .ok (.iload_n 3, 1) := by decide +kernel
theorem dX9_keeps_192 : decode cX9_keeps 192 = .ok (.iadd, 1) := by decide +kernel
theorem dX9_keeps_193 : decode cX9_keeps 193 = .ok (.baload, 1) := by decide +kernel
theorem dX9_keeps_194 : decode cX9_keeps 194 = .ok (.ifCond .eq 7, 3) := by decide +kernel
theorem dX9_keeps_197 : decode cX9_keeps 197 = .ok (.iconst 1, 1) := by decide +kernel
theorem dX9_keeps_198 : decode cX9_keeps 198 = .ok (.goto 4, 3) := by decide +kernel
theorem dX9_keeps_201 : decode cX9_keeps 201 = .ok (.iconst 0, 1) := by decide +kernel
theorem dX9_keeps_202 : decode cX9_keeps 202 = .ok (.istore_n 2, 1) := by decide +kernel
theorem dX9_keeps_203 : decode cX9_keeps 203 = .ok (.iinc 3 1, 3) := by decide +kernel
theorem dX9_keeps_206 : decode cX9_keeps 206 = .ok (.goto (-113), 3) := by decide +kernel
theorem dX9_keeps_209 : decode cX9_keeps 209 = .ok (.aload_n 0, 1) := by decide +kernel
theorem dX9_keeps_210 : decode cX9_keeps 210 = .ok (.iload_n 2, 1) := by decide +kernel
theorem dX9_keeps_211 : decode cX9_keeps 211 = .ok (.ifCond .eq 15, 3) := by decide +kernel
theorem dX9_keeps_214 : decode cX9_keeps 214 = .ok (.aload_n 0, 1) := by decide +kernel
theorem dX9_keeps_215 : decode cX9_keeps 215 = .ok (.getfield 231, 3) := by decide +kernel
theorem dX9_keeps_218 : decode cX9_keeps 218 = .ok (.iconst (-1), 1) := by decide +kernel
theorem dX9_keeps_219 : decode cX9_keeps 219 = .ok (.if_icmp .ne 7, 3) := by decide +kernel
theorem dX9_keeps_222 : decode cX9_keeps 222 = .ok (.iload_n 1, 1) := by decide +kernel
theorem dX9_keeps_223 : decode cX9_keeps 223 = .ok (.goto 7, 3) := by decide +kernel
theorem dX9_keeps_226 : decode cX9_keeps 226 = .ok (.aload_n 0, 1) := by decide +kernel
theorem dX9_keeps_227 : decode cX9_keeps 227 = .ok (.getfield 231, 3) := by decide +kernel
theorem dX9_keeps_230 : decode cX9_keeps 230 = .ok (.putfield 231, 3) := by decide +kernel
theorem dX9_keeps_233 : decode cX9_keeps 233 = .ok (.aload_n 0, 1) := by decide +kernel
theorem dX9_keeps_234 : decode cX9_keeps 234 = .ok (.dup, 1) := by decide +kernel
theorem dX9_keeps_235 : decode cX9_keeps 235 = .ok (.getfield 234, 3) := by decide +kernel
theorem dX9_keeps_238 : decode cX9_keeps 238 = .ok (.iload_n 2, 1) := by decide +kernel
theorem dX9_keeps_239 : decode cX9_keeps 239 = .ok (.ifCond .eq 7, 3) := by decide +kernel
theorem dX9_keeps_242 : decode cX9_keeps 242 = .ok (.iconst 1, 1) := by decide +kernel
theorem dX9_keeps_243 : decode cX9_keeps 243 = .ok (.goto 4, 3) := by decide +kernel
theorem dX9_keeps_246 : decode cX9_keeps 246 = .ok (.iconst 0, 1) := by decide +kernel
theorem dX9_keeps_247 : decode cX9_keeps 247 = .ok (.iadd, 1) := by decide +kernel
theorem dX9_keeps_248 : decode cX9_keeps 248 = .ok (.putfield 234, 3) := by decide +kernel
theorem dX9_keeps_251 : decode cX9_keeps 251 = .ok (.return_, 1) := by decide +kernel
theorem dX9_goesBy_0 : decode cX9_goesBy 0 = .ok (.iconst 0, 1) := by decide +kernel
theorem dX9_goesBy_1 : decode cX9_goesBy 1 = .ok (.istore_n 2, 1) := by decide +kernel
theorem dX9_goesBy_2 : decode cX9_goesBy 2 = .ok (.aload_n 0, 1) := by decide +kernel
theorem dX9_goesBy_3 : decode cX9_goesBy 3 = .ok (.iconst 0, 1) := by decide +kernel
theorem dX9_goesBy_4 : decode cX9_goesBy 4 = .ok (.putfield 212, 3) := by decide +kernel
theorem dX9_goesBy_7 : decode cX9_goesBy 7 = .ok (.iconst 0, 1) := by decide +kernel
theorem dX9_goesBy_8 : decode cX9_goesBy 8 = .ok (.istore_n 3, 1) := by decide +kernel
theorem dX9_goesBy_9 : decode cX9_goesBy 9 = .ok (.iload_n 3, 1) := by decide +kernel
theorem dX9_goesBy_10 : decode cX9_goesBy 10 = .ok (.aload_n 0, 1) := by decide +kernel
theorem dX9_goesBy_11 : decode cX9_goesBy 11 = .ok (.getfield 185, 3) := by decide +kernel
theorem dX9_goesBy_14 : decode cX9_goesBy 14 = .ok (.if_icmp .ge 42, 3) := by decide +kernel
theorem dX9_goesBy_17 : decode cX9_goesBy 17 = .ok (.aload_n 0, 1) := by decide +kernel
theorem dX9_goesBy_18 : decode cX9_goesBy 18 = .ok (.getfield 43, 3) := by decide +kernel
theorem dX9_goesBy_21 : decode cX9_goesBy 21 = .ok (.iload_n 3, 1) := by decide +kernel
theorem dX9_goesBy_22 : decode cX9_goesBy 22 = .ok (.iaload, 1) := by decide +kernel
theorem dX9_goesBy_23 : decode cX9_goesBy 23 = .ok (.iload_n 1, 1) := by decide +kernel
theorem dX9_goesBy_24 : decode cX9_goesBy 24 = .ok (.if_icmp .ne 26, 3) := by decide +kernel
theorem dX9_goesBy_27 : decode cX9_goesBy 27 = .ok (.aload_n 0, 1) := by decide +kernel
theorem dX9_goesBy_28 : decode cX9_goesBy 28 = .ok (.getfield 188, 3) := by decide +kernel
theorem dX9_goesBy_31 : decode cX9_goesBy 31 = .ok (.iload_n 3, 1) := by decide +kernel
theorem dX9_goesBy_32 : decode cX9_goesBy 32 = .ok (.invokestatic 237, 3) := by decide +kernel
theorem dX9_goesBy_35 : decode cX9_goesBy 35 = .ok (.ifCond .ne 15, 3) := by decide +kernel
theorem dX9_goesBy_38 : decode cX9_goesBy 38 = .ok (.iconst 1, 1) := by decide +kernel
theorem dX9_goesBy_39 : decode cX9_goesBy 39 = .ok (.istore_n 2, 1) := by decide +kernel
theorem dX9_goesBy_40 : decode cX9_goesBy 40 = .ok (.aload_n 0, 1) := by decide +kernel
theorem dX9_goesBy_41 : decode cX9_goesBy 41 = .ok (.aload_n 0, 1) := by decide +kernel
theorem dX9_goesBy_42 : decode cX9_goesBy 42 = .ok (.getfield 46, 3) := by decide +kernel
theorem dX9_goesBy_45 : decode cX9_goesBy 45 = .ok (.iload_n 3, 1) := by decide +kernel
theorem dX9_goesBy_46 : decode cX9_goesBy 46 = .ok (.iaload, 1) := by decide +kernel
theorem dX9_goesBy_47 : decode cX9_goesBy 47 = .ok (.invokevirtual 240, 3) := by decide +kernel
theorem dX9_goesBy_50 : decode cX9_goesBy 50 = .ok (.iinc 3 1, 3) := by decide +kernel
theorem dX9_goesBy_53 : decode cX9_goesBy 53 = .ok (.goto (-44), 3) := by decide +kernel
theorem dX9_goesBy_56 : decode cX9_goesBy 56 = .ok (.iload_n 2, 1) := by decide +kernel
theorem dX9_goesBy_57 : decode cX9_goesBy 57 = .ok (.ifCond .ne 7, 3) := by decide +kernel
theorem dX9_goesBy_60 : decode cX9_goesBy 60 = .ok (.aload_n 0, 1) := by decide +kernel
theorem dX9_goesBy_61 : decode cX9_goesBy 61 = .ok (.invokevirtual 225, 3) := by decide +kernel
theorem dX9_goesBy_64 : decode cX9_goesBy 64 = .ok (.iconst 0, 1) := by decide +kernel
theorem dX9_goesBy_65 : decode cX9_goesBy 65 = .ok (.istore_n 3, 1) := by decide +kernel
theorem dX9_goesBy_66 : decode cX9_goesBy 66 = .ok (.iload_n 3, 1) := by decide +kernel
theorem dX9_goesBy_67 : decode cX9_goesBy 67 = .ok (.aload_n 0, 1) := by decide +kernel
theorem dX9_goesBy_68 : decode cX9_goesBy 68 = .ok (.getfield 191, 3) := by decide +kernel
theorem dX9_goesBy_71 : decode cX9_goesBy 71 = .ok (.if_icmp .ge 35, 3) := by decide +kernel
theorem dX9_goesBy_74 : decode cX9_goesBy 74 = .ok (.aload_n 0, 1) := by decide +kernel
theorem dX9_goesBy_75 : decode cX9_goesBy 75 = .ok (.getfield 31, 3) := by decide +kernel
theorem dX9_goesBy_78 : decode cX9_goesBy 78 = .ok (.iload_n 3, 1) := by decide +kernel
theorem dX9_goesBy_79 : decode cX9_goesBy 79 = .ok (.iaload, 1) := by decide +kernel
theorem dX9_goesBy_80 : decode cX9_goesBy 80 = .ok (.iload_n 1, 1) := by decide +kernel
theorem dX9_goesBy_81 : decode cX9_goesBy 81 = .ok (.if_icmp .ne 19, 3) := by decide +kernel
theorem dX9_goesBy_84 : decode cX9_goesBy 84 = .ok (.aload_n 0, 1) := by decide +kernel
theorem dX9_goesBy_85 : decode cX9_goesBy 85 = .ok (.aload_n 0, 1) := by decide +kernel
theorem dX9_goesBy_86 : decode cX9_goesBy 86 = .ok (.getfield 34, 3) := by decide +kernel
theorem dX9_goesBy_89 : decode cX9_goesBy 89 = .ok (.iload_n 3, 1) := by decide +kernel
theorem dX9_goesBy_90 : decode cX9_goesBy 90 = .ok (.iaload, 1) := by decide +kernel
theorem dX9_goesBy_91 : decode cX9_goesBy 91 = .ok (.aload_n 0, 1) := by decide +kernel
theorem dX9_goesBy_92 : decode cX9_goesBy 92 = .ok (.getfield 37, 3) := by decide +kernel
theorem dX9_goesBy_95 : decode cX9_goesBy 95 = .ok (.iload_n 3, 1) := by decide +kernel
theorem dX9_goesBy_96 : decode cX9_goesBy 96 = .ok (.iaload, 1) := by decide +kernel
theorem dX9_goesBy_97 : decode cX9_goesBy 97 = .ok (.invokevirtual 243, 3) := by decide +kernel
theorem dX9_goesBy_100 : decode cX9_goesBy 100 = .ok (.iinc 3 1, 3) := by decide +kernel
theorem dX9_goesBy_103 : decode cX9_goesBy 103 = .ok (.goto (-37), 3) := by decide +kernel
theorem dX9_goesBy_106 : decode cX9_goesBy 106 = .ok (.aload_n 0, 1) := by decide +kernel
theorem dX9_goesBy_107 : decode cX9_goesBy 107 = .ok (.getfield 61, 3) := by decide +kernel
theorem dX9_goesBy_110 : decode cX9_goesBy 110 = .ok (.iload_n 1, 1) := by decide +kernel
theorem dX9_goesBy_111 : decode cX9_goesBy 111 = .ok (.aload_n 0, 1) := by decide +kernel
theorem dX9_goesBy_112 : decode cX9_goesBy 112 = .ok (.getfield 212, 3) := by decide +kernel
theorem dX9_goesBy_115 : decode cX9_goesBy 115 = .ok (.iastore, 1) := by decide +kernel
theorem dX9_goesBy_116 : decode cX9_goesBy 116 = .ok (.aload_n 0, 1) := by decide +kernel
theorem dX9_goesBy_117 : decode cX9_goesBy 117 = .ok (.dup, 1) := by decide +kernel
theorem dX9_goesBy_118 : decode cX9_goesBy 118 = .ok (.getfield 247, 3) := by decide +kernel
theorem dX9_goesBy_121 : decode cX9_goesBy 121 = .ok (.aload_n 0, 1) := by decide +kernel
theorem dX9_goesBy_122 : decode cX9_goesBy 122 = .ok (.getfield 212, 3) := by decide +kernel
theorem dX9_goesBy_125 : decode cX9_goesBy 125 = .ok (.iadd, 1) := by decide +kernel
theorem dX9_goesBy_126 : decode cX9_goesBy 126 = .ok (.putfield 247, 3) := by decide +kernel
theorem dX9_goesBy_129 : decode cX9_goesBy 129 = .ok (.aload_n 0, 1) := by decide +kernel
theorem dX9_goesBy_130 : decode cX9_goesBy 130 = .ok (.iload_n 1, 1) := by decide +kernel
theorem dX9_goesBy_131 : decode cX9_goesBy 131 = .ok (.invokevirtual 250, 3) := by decide +kernel
theorem dX9_goesBy_134 : decode cX9_goesBy 134 = .ok (.return_, 1) := by decide +kernel
theorem dX9_runs_0 : decode cX9_runs 0 = .ok (.iconst 0, 1) := by decide +kernel
theorem dX9_runs_1 : decode cX9_runs 1 = .ok (.istore_n 1, 1) := by decide +kernel
theorem dX9_runs_2 : decode cX9_runs 2 = .ok (.iload_n 1, 1) := by decide +kernel
theorem dX9_runs_3 : decode cX9_runs 3 = .ok (.bipush 40, 2) := by decide +kernel
theorem dX9_runs_5 : decode cX9_runs 5 = .ok (.if_icmp .ge 21, 3) := by decide +kernel
theorem dX9_runs_8 : decode cX9_runs 8 = .ok (.aload_n 0, 1) := by decide +kernel
theorem dX9_runs_9 : decode cX9_runs 9 = .ok (.getfield 40, 3) := by decide +kernel
theorem dX9_runs_12 : decode cX9_runs 12 = .ok (.iload_n 1, 1) := by decide +kernel
theorem dX9_runs_13 : decode cX9_runs 13 = .ok (.aload_n 0, 1) := by decide +kernel
theorem dX9_runs_14 : decode cX9_runs 14 = .ok (.getfield 16, 3) := by decide +kernel
theorem dX9_runs_17 : decode cX9_runs 17 = .ok (.iload_n 1, 1) := by decide +kernel
theorem dX9_runs_18 : decode cX9_runs 18 = .ok (.iaload, 1) := by decide +kernel
theorem dX9_runs_19 : decode cX9_runs 19 = .ok (.iastore, 1) := by decide +kernel
theorem dX9_runs_20 : decode cX9_runs 20 = .ok (.iinc 1 1, 3) := by decide +kernel
theorem dX9_runs_23 : decode cX9_runs 23 = .ok (.goto (-21), 3) := by decide +kernel
theorem dX9_runs_26 : decode cX9_runs 26 = .ok (.iconst 0, 1) := by decide +kernel
theorem dX9_runs_27 : decode cX9_runs 27 = .ok (.istore_n 1, 1) := by decide +kernel
theorem dX9_runs_28 : decode cX9_runs 28 = .ok (.iload_n 1, 1) := by decide +kernel
theorem dX9_runs_29 : decode cX9_runs 29 = .ok (.bipush 8, 2) := by decide +kernel
theorem dX9_runs_31 : decode cX9_runs 31 = .ok (.if_icmp .ge 16, 3) := by decide +kernel
theorem dX9_runs_34 : decode cX9_runs 34 = .ok (.aload_n 0, 1) := by decide +kernel
theorem dX9_runs_35 : decode cX9_runs 35 = .ok (.getfield 52, 3) := by decide +kernel
theorem dX9_runs_38 : decode cX9_runs 38 = .ok (.iload_n 1, 1) := by decide +kernel
theorem dX9_runs_39 : decode cX9_runs 39 = .ok (.iconst 0, 1) := by decide +kernel
theorem dX9_runs_40 : decode cX9_runs 40 = .ok (.iastore, 1) := by decide +kernel
theorem dX9_runs_41 : decode cX9_runs 41 = .ok (.iinc 1 1, 3) := by decide +kernel
theorem dX9_runs_44 : decode cX9_runs 44 = .ok (.goto (-16), 3) := by decide +kernel
theorem dX9_runs_47 : decode cX9_runs 47 = .ok (.aload_n 0, 1) := by decide +kernel
theorem dX9_runs_48 : decode cX9_runs 48 = .ok (.iconst 0, 1) := by decide +kernel
theorem dX9_runs_49 : decode cX9_runs 49 = .ok (.putfield 247, 3) := by decide +kernel
theorem dX9_runs_52 : decode cX9_runs 52 = .ok (.aload_n 0, 1) := by decide +kernel
theorem dX9_runs_53 : decode cX9_runs 53 = .ok (.iconst (-1), 1) := by decide +kernel
theorem dX9_runs_54 : decode cX9_runs 54 = .ok (.putfield 231, 3) := by decide +kernel
theorem dX9_runs_57 : decode cX9_runs 57 = .ok (.aload_n 0, 1) := by decide +kernel
theorem dX9_runs_58 : decode cX9_runs 58 = .ok (.iconst 0, 1) := by decide +kernel
theorem dX9_runs_59 : decode cX9_runs 59 = .ok (.putfield 234, 3) := by decide +kernel
theorem dX9_runs_62 : decode cX9_runs 62 = .ok (.iconst 0, 1) := by decide +kernel
theorem dX9_runs_63 : decode cX9_runs 63 = .ok (.istore_n 1, 1) := by decide +kernel
theorem dX9_runs_64 : decode cX9_runs 64 = .ok (.iload_n 1, 1) := by decide +kernel
theorem dX9_runs_65 : decode cX9_runs 65 = .ok (.bipush 20, 2) := by decide +kernel
theorem dX9_runs_67 : decode cX9_runs 67 = .ok (.if_icmp .ge 14, 3) := by decide +kernel
theorem dX9_runs_70 : decode cX9_runs 70 = .ok (.aload_n 0, 1) := by decide +kernel
theorem dX9_runs_71 : decode cX9_runs 71 = .ok (.iload_n 1, 1) := by decide +kernel
theorem dX9_runs_72 : decode cX9_runs 72 = .ok (.invokevirtual 253, 3) := by decide +kernel
theorem dX9_runs_75 : decode cX9_runs 75 = .ok (.iinc 1 1, 3) := by decide +kernel
theorem dX9_runs_78 : decode cX9_runs 78 = .ok (.goto (-14), 3) := by decide +kernel
theorem dX9_runs_81 : decode cX9_runs 81 = .ok (.return_, 1) := by decide +kernel
theorem dX9_runsTold_0 : decode cX9_runsTold 0 = .ok (.aload_n 0, 1) := by decide +kernel
theorem dX9_runsTold_1 : decode cX9_runsTold 1 = .ok (.invokevirtual 256, 3) := by decide +kernel
theorem dX9_runsTold_4 : decode cX9_runsTold 4 = .ok (.aload_n 0, 1) := by decide +kernel
theorem dX9_runsTold_5 : decode cX9_runsTold 5 = .ok (.invokevirtual 259, 3) := by decide +kernel
theorem dX9_runsTold_8 : decode cX9_runsTold 8 = .ok (.return_, 1) := by decide +kernel
theorem dX9_atOf_0 : decode cX9_atOf 0 = .ok (.aload_n 0, 1) := by decide +kernel
theorem dX9_atOf_1 : decode cX9_atOf 1 = .ok (.invokevirtual 262, 3) := by decide +kernel
theorem dX9_atOf_4 : decode cX9_atOf 4 = .ok (.iload_n 3, 1) := by decide +kernel
theorem dX9_atOf_5 : decode cX9_atOf 5 = .ok (.ifCond .ne 17, 3) := by decide +kernel
theorem dX9_atOf_8 : decode cX9_atOf 8 = .ok (.aload_n 0, 1) := by decide +kernel
theorem dX9_atOf_9 : decode cX9_atOf 9 = .ok (.getfield 55, 3) := by decide +kernel
theorem dX9_atOf_12 : decode cX9_atOf 12 = .ok (.bipush 40, 2) := by decide +kernel
theorem dX9_atOf_14 : decode cX9_atOf 14 = .ok (.iload_n 1, 1) := by decide +kernel
theorem dX9_atOf_15 : decode cX9_atOf 15 = .ok (.imul, 1) := by decide +kernel
theorem dX9_atOf_16 : decode cX9_atOf 16 = .ok (.iload_n 2, 1) := by decide +kernel
theorem dX9_atOf_17 : decode cX9_atOf 17 = .ok (.iadd, 1) := by decide +kernel
theorem dX9_atOf_18 : decode cX9_atOf 18 = .ok (.iaload, 1) := by decide +kernel
theorem dX9_atOf_19 : decode cX9_atOf 19 = .ok (.goto 14, 3) := by decide +kernel
theorem dX9_atOf_22 : decode cX9_atOf 22 = .ok (.aload_n 0, 1) := by decide +kernel
theorem dX9_atOf_23 : decode cX9_atOf 23 = .ok (.getfield 58, 3) := by decide +kernel
theorem dX9_atOf_26 : decode cX9_atOf 26 = .ok (.bipush 40, 2) := by decide +kernel
theorem dX9_atOf_28 : decode cX9_atOf 28 = .ok (.iload_n 1, 1) := by decide +kernel
theorem dX9_atOf_29 : decode cX9_atOf 29 = .ok (.imul, 1) := by decide +kernel
theorem dX9_atOf_30 : decode cX9_atOf 30 = .ok (.iload_n 2, 1) := by decide +kernel
theorem dX9_atOf_31 : decode cX9_atOf 31 = .ok (.iadd, 1) := by decide +kernel
theorem dX9_atOf_32 : decode cX9_atOf 32 = .ok (.iaload, 1) := by decide +kernel
theorem dX9_atOf_33 : decode cX9_atOf 33 = .ok (.ireturn, 1) := by decide +kernel
theorem dX9_at_0 : decode cX9_at 0 = .ok (.iload_n 1, 1) := by decide +kernel
theorem dX9_at_1 : decode cX9_at 1 = .ok (.invokestatic 167, 3) := by decide +kernel
theorem dX9_at_4 : decode cX9_at 4 = .ok (.ifCond .eq 37, 3) := by decide +kernel
theorem dX9_at_7 : decode cX9_at 7 = .ok (.iload_n 2, 1) := by decide +kernel
theorem dX9_at_8 : decode cX9_at 8 = .ok (.iload_n 3, 1) := by decide +kernel
theorem dX9_at_9 : decode cX9_at 9 = .ok (.invokestatic 154, 3) := by decide +kernel
theorem dX9_at_12 : decode cX9_at 12 = .ok (.ifCond .eq 29, 3) := by decide +kernel
theorem dX9_at_15 : decode cX9_at 15 = .ok (.iload 4, 2) := by decide +kernel
theorem dX9_at_17 : decode cX9_at 17 = .ok (.iconst 0, 1) := by decide +kernel
theorem dX9_at_18 : decode cX9_at 18 = .ok (.iconst 1, 1) := by decide +kernel
theorem dX9_at_19 : decode cX9_at 19 = .ok (.invokestatic 107, 3) := by decide +kernel
theorem dX9_at_22 : decode cX9_at 22 = .ok (.ifCond .eq 19, 3) := by decide +kernel
theorem dX9_at_25 : decode cX9_at 25 = .ok (.aload_n 0, 1) := by decide +kernel
theorem dX9_at_26 : decode cX9_at 26 = .ok (.iload_n 1, 1) := by decide +kernel
theorem dX9_at_27 : decode cX9_at 27 = .ok (.bipush 8, 2) := by decide +kernel
theorem dX9_at_29 : decode cX9_at 29 = .ok (.iload_n 2, 1) := by decide +kernel
theorem dX9_at_30 : decode cX9_at 30 = .ok (.imul, 1) := by decide +kernel
theorem dX9_at_31 : decode cX9_at 31 = .ok (.iload_n 3, 1) := by decide +kernel
theorem dX9_at_32 : decode cX9_at 32 = .ok (.iadd, 1) := by decide +kernel
theorem dX9_at_33 : decode cX9_at 33 = .ok (.iload 4, 2) := by decide +kernel
theorem dX9_at_35 : decode cX9_at 35 = .ok (.invokevirtual 265, 3) := by decide +kernel
theorem dX9_at_38 : decode cX9_at 38 = .ok (.goto 5, 3) := by decide +kernel
theorem dX9_at_41 : decode cX9_at 41 = .ok (.bipush (-2), 2) := by decide +kernel
theorem dX9_at_43 : decode cX9_at 43 = .ok (.ireturn, 1) := by decide +kernel
theorem dX9_isColumn_0 : decode cX9_isColumn 0 = .ok (.aload_n 0, 1) := by decide +kernel
theorem dX9_isColumn_1 : decode cX9_isColumn 1 = .ok (.invokevirtual 151, 3) := by decide +kernel
theorem dX9_isColumn_4 : decode cX9_isColumn 4 = .ok (.iload_n 1, 1) := by decide +kernel
theorem dX9_isColumn_5 : decode cX9_isColumn 5 = .ok (.iconst 0, 1) := by decide +kernel
theorem dX9_isColumn_6 : decode cX9_isColumn 6 = .ok (.aload_n 0, 1) := by decide +kernel
theorem dX9_isColumn_7 : decode cX9_isColumn 7 = .ok (.getfield 121, 3) := by decide +kernel
theorem dX9_isColumn_10 : decode cX9_isColumn 10 = .ok (.iconst 1, 1) := by decide +kernel
theorem dX9_isColumn_11 : decode cX9_isColumn 11 = .ok (.isub, 1) := by decide +kernel
theorem dX9_isColumn_12 : decode cX9_isColumn 12 = .ok (.invokestatic 107, 3) := by decide +kernel
theorem dX9_isColumn_15 : decode cX9_isColumn 15 = .ok (.ireturn, 1) := by decide +kernel
theorem dX9_columnOf_0 : decode cX9_columnOf 0 = .ok (.aload_n 0, 1) := by decide +kernel
theorem dX9_columnOf_1 : decode cX9_columnOf 1 = .ok (.invokevirtual 262, 3) := by decide +kernel
theorem dX9_columnOf_4 : decode cX9_columnOf 4 = .ok (.iload_n 3, 1) := by decide +kernel
theorem dX9_columnOf_5 : decode cX9_columnOf 5 = .ok (.ifCond .ne 17, 3) := by decide +kernel
theorem dX9_columnOf_8 : decode cX9_columnOf 8 = .ok (.aload_n 0, 1) := by decide +kernel
theorem dX9_columnOf_9 : decode cX9_columnOf 9 = .ok (.getfield 67, 3) := by decide +kernel
theorem dX9_columnOf_12 : decode cX9_columnOf 12 = .ok (.bipush 8, 2) := by decide +kernel
theorem dX9_columnOf_14 : decode cX9_columnOf 14 = .ok (.iload_n 1, 1) := by decide +kernel
theorem dX9_columnOf_15 : decode cX9_columnOf 15 = .ok (.imul, 1) := by decide +kernel
theorem dX9_columnOf_16 : decode cX9_columnOf 16 = .ok (.iload_n 2, 1) := by decide +kernel
theorem dX9_columnOf_17 : decode cX9_columnOf 17 = .ok (.iadd, 1) := by decide +kernel
theorem dX9_columnOf_18 : decode cX9_columnOf 18 = .ok (.iaload, 1) := by decide +kernel
theorem dX9_columnOf_19 : decode cX9_columnOf 19 = .ok (.goto 22, 3) := by decide +kernel
theorem dX9_columnOf_22 : decode cX9_columnOf 22 = .ok (.aload_n 0, 1) := by decide +kernel
theorem dX9_columnOf_23 : decode cX9_columnOf 23 = .ok (.getfield 70, 3) := by decide +kernel
theorem dX9_columnOf_26 : decode cX9_columnOf 26 = .ok (.bipush 8, 2) := by decide +kernel
theorem dX9_columnOf_28 : decode cX9_columnOf 28 = .ok (.iload_n 1, 1) := by decide +kernel
theorem dX9_columnOf_29 : decode cX9_columnOf 29 = .ok (.imul, 1) := by decide +kernel
theorem dX9_columnOf_30 : decode cX9_columnOf 30 = .ok (.iload_n 2, 1) := by decide +kernel
theorem dX9_columnOf_31 : decode cX9_columnOf 31 = .ok (.iadd, 1) := by decide +kernel
theorem dX9_columnOf_32 : decode cX9_columnOf 32 = .ok (.baload, 1) := by decide +kernel
theorem dX9_columnOf_33 : decode cX9_columnOf 33 = .ok (.ifCond .eq 7, 3) := by decide +kernel
theorem dX9_columnOf_36 : decode cX9_columnOf 36 = .ok (.iconst 1, 1) := by decide +kernel
theorem dX9_columnOf_37 : decode cX9_columnOf 37 = .ok (.goto 4, 3) := by decide +kernel
theorem dX9_columnOf_40 : decode cX9_columnOf 40 = .ok (.iconst 0, 1) := by decide +kernel
theorem dX9_columnOf_41 : decode cX9_columnOf 41 = .ok (.ireturn, 1) := by decide +kernel
theorem dX9_column_0 : decode cX9_column 0 = .ok (.iload_n 1, 1) := by decide +kernel
theorem dX9_column_1 : decode cX9_column 1 = .ok (.invokestatic 167, 3) := by decide +kernel
theorem dX9_column_4 : decode cX9_column 4 = .ok (.ifCond .eq 30, 3) := by decide +kernel
theorem dX9_column_7 : decode cX9_column 7 = .ok (.aload_n 0, 1) := by decide +kernel
theorem dX9_column_8 : decode cX9_column 8 = .ok (.iload_n 2, 1) := by decide +kernel
theorem dX9_column_9 : decode cX9_column 9 = .ok (.invokevirtual 269, 3) := by decide +kernel
theorem dX9_column_12 : decode cX9_column 12 = .ok (.ifCond .eq 22, 3) := by decide +kernel
theorem dX9_column_15 : decode cX9_column 15 = .ok (.iload_n 3, 1) := by decide +kernel
theorem dX9_column_16 : decode cX9_column 16 = .ok (.iconst 0, 1) := by decide +kernel
theorem dX9_column_17 : decode cX9_column 17 = .ok (.iconst 1, 1) := by decide +kernel
theorem dX9_column_18 : decode cX9_column 18 = .ok (.invokestatic 107, 3) := by decide +kernel
theorem dX9_column_21 : decode cX9_column 21 = .ok (.ifCond .eq 13, 3) := by decide +kernel
theorem dX9_column_24 : decode cX9_column 24 = .ok (.aload_n 0, 1) := by decide +kernel
theorem dX9_column_25 : decode cX9_column 25 = .ok (.iload_n 1, 1) := by decide +kernel
theorem dX9_column_26 : decode cX9_column 26 = .ok (.iload_n 2, 1) := by decide +kernel
theorem dX9_column_27 : decode cX9_column 27 = .ok (.iload_n 3, 1) := by decide +kernel
theorem dX9_column_28 : decode cX9_column 28 = .ok (.invokevirtual 272, 3) := by decide +kernel
theorem dX9_column_31 : decode cX9_column 31 = .ok (.goto 5, 3) := by decide +kernel
theorem dX9_column_34 : decode cX9_column 34 = .ok (.bipush (-2), 2) := by decide +kernel
theorem dX9_column_36 : decode cX9_column 36 = .ok (.ireturn, 1) := by decide +kernel
theorem dX9_fallsOf_0 : decode cX9_fallsOf 0 = .ok (.aload_n 0, 1) := by decide +kernel
theorem dX9_fallsOf_1 : decode cX9_fallsOf 1 = .ok (.invokevirtual 262, 3) := by decide +kernel
theorem dX9_fallsOf_4 : decode cX9_fallsOf 4 = .ok (.aload_n 0, 1) := by decide +kernel
theorem dX9_fallsOf_5 : decode cX9_fallsOf 5 = .ok (.getfield 61, 3) := by decide +kernel
theorem dX9_fallsOf_8 : decode cX9_fallsOf 8 = .ok (.iload_n 1, 1) := by decide +kernel
theorem dX9_fallsOf_9 : decode cX9_fallsOf 9 = .ok (.iaload, 1) := by decide +kernel
theorem dX9_fallsOf_10 : decode cX9_fallsOf 10 = .ok (.ireturn, 1) := by decide +kernel
theorem dX9_falls_0 : decode cX9_falls 0 = .ok (.iload_n 1, 1) := by decide +kernel
theorem dX9_falls_1 : decode cX9_falls 1 = .ok (.invokestatic 167, 3) := by decide +kernel
theorem dX9_falls_4 : decode cX9_falls 4 = .ok (.ifCond .eq 11, 3) := by decide +kernel
theorem dX9_falls_7 : decode cX9_falls 7 = .ok (.aload_n 0, 1) := by decide +kernel
theorem dX9_falls_8 : decode cX9_falls 8 = .ok (.iload_n 1, 1) := by decide +kernel
theorem dX9_falls_9 : decode cX9_falls 9 = .ok (.invokevirtual 275, 3) := by decide +kernel
theorem dX9_falls_12 : decode cX9_falls 12 = .ok (.goto 5, 3) := by decide +kernel
theorem dX9_falls_15 : decode cX9_falls 15 = .ok (.bipush (-2), 2) := by decide +kernel
theorem dX9_falls_17 : decode cX9_falls 17 = .ok (.ireturn, 1) := by decide +kernel
theorem dX9_sheepOf_0 : decode cX9_sheepOf 0 = .ok (.aload_n 0, 1) := by decide +kernel
theorem dX9_sheepOf_1 : decode cX9_sheepOf 1 = .ok (.invokevirtual 262, 3) := by decide +kernel
theorem dX9_sheepOf_4 : decode cX9_sheepOf 4 = .ok (.iload_n 1, 1) := by decide +kernel
theorem dX9_sheepOf_5 : decode cX9_sheepOf 5 = .ok (.ifCond .ne 10, 3) := by decide +kernel
theorem dX9_sheepOf_8 : decode cX9_sheepOf 8 = .ok (.aload_n 0, 1) := by decide +kernel
theorem dX9_sheepOf_9 : decode cX9_sheepOf 9 = .ok (.getfield 231, 3) := by decide +kernel
theorem dX9_sheepOf_12 : decode cX9_sheepOf 12 = .ok (.goto 7, 3) := by decide +kernel
theorem dX9_sheepOf_15 : decode cX9_sheepOf 15 = .ok (.aload_n 0, 1) := by decide +kernel
theorem dX9_sheepOf_16 : decode cX9_sheepOf 16 = .ok (.getfield 234, 3) := by decide +kernel
theorem dX9_sheepOf_19 : decode cX9_sheepOf 19 = .ok (.ireturn, 1) := by decide +kernel
theorem dX9_sheep_0 : decode cX9_sheep 0 = .ok (.iload_n 1, 1) := by decide +kernel
theorem dX9_sheep_1 : decode cX9_sheep 1 = .ok (.iconst 0, 1) := by decide +kernel
theorem dX9_sheep_2 : decode cX9_sheep 2 = .ok (.iconst 1, 1) := by decide +kernel
theorem dX9_sheep_3 : decode cX9_sheep 3 = .ok (.invokestatic 107, 3) := by decide +kernel
theorem dX9_sheep_6 : decode cX9_sheep 6 = .ok (.ifCond .eq 11, 3) := by decide +kernel
theorem dX9_sheep_9 : decode cX9_sheep 9 = .ok (.aload_n 0, 1) := by decide +kernel
theorem dX9_sheep_10 : decode cX9_sheep 10 = .ok (.iload_n 1, 1) := by decide +kernel
theorem dX9_sheep_11 : decode cX9_sheep 11 = .ok (.invokevirtual 278, 3) := by decide +kernel
theorem dX9_sheep_14 : decode cX9_sheep 14 = .ok (.goto 5, 3) := by decide +kernel
theorem dX9_sheep_17 : decode cX9_sheep 17 = .ok (.bipush (-2), 2) := by decide +kernel
theorem dX9_sheep_19 : decode cX9_sheep 19 = .ok (.ireturn, 1) := by decide +kernel
theorem dX9_mineNow_0 : decode cX9_mineNow 0 = .ok (.iconst 0, 1) := by decide +kernel
theorem dX9_mineNow_1 : decode cX9_mineNow 1 = .ok (.istore_n 2, 1) := by decide +kernel
theorem dX9_mineNow_2 : decode cX9_mineNow 2 = .ok (.iconst 0, 1) := by decide +kernel
theorem dX9_mineNow_3 : decode cX9_mineNow 3 = .ok (.istore_n 3, 1) := by decide +kernel
theorem dX9_mineNow_4 : decode cX9_mineNow 4 = .ok (.iload_n 3, 1) := by decide +kernel
theorem dX9_mineNow_5 : decode cX9_mineNow 5 = .ok (.bipush 40, 2) := by decide +kernel
theorem dX9_mineNow_7 : decode cX9_mineNow 7 = .ok (.if_icmp .ge 31, 3) := by decide +kernel
theorem dX9_mineNow_10 : decode cX9_mineNow 10 = .ok (.iload_n 2, 1) := by decide +kernel
theorem dX9_mineNow_11 : decode cX9_mineNow 11 = .ok (.aload_n 0, 1) := by decide +kernel
theorem dX9_mineNow_12 : decode cX9_mineNow 12 = .ok (.getfield 55, 3) := by decide +kernel
theorem dX9_mineNow_15 : decode cX9_mineNow 15 = .ok (.sipush 760, 3) := by decide +kernel
theorem dX9_mineNow_18 : decode cX9_mineNow 18 = .ok (.iload_n 3, 1) := by decide +kernel
theorem dX9_mineNow_19 : decode cX9_mineNow 19 = .ok (.iadd, 1) := by decide +kernel
theorem dX9_mineNow_20 : decode cX9_mineNow 20 = .ok (.iaload, 1) := by decide +kernel
theorem dX9_mineNow_21 : decode cX9_mineNow 21 = .ok (.iload_n 1, 1) := by decide +kernel
theorem dX9_mineNow_22 : decode cX9_mineNow 22 = .ok (.if_icmp .ne 7, 3) := by decide +kernel
theorem dX9_mineNow_25 : decode cX9_mineNow 25 = .ok (.iconst 1, 1) := by decide +kernel
theorem dX9_mineNow_26 : decode cX9_mineNow 26 = .ok (.goto 4, 3) := by decide +kernel
theorem dX9_mineNow_29 : decode cX9_mineNow 29 = .ok (.iconst 0, 1) := by decide +kernel
theorem dX9_mineNow_30 : decode cX9_mineNow 30 = .ok (.iadd, 1) := by decide +kernel
theorem dX9_mineNow_31 : decode cX9_mineNow 31 = .ok (.istore_n 2, 1) := by decide +kernel
theorem dX9_mineNow_32 : decode cX9_mineNow 32 = .ok (.iinc 3 1, 3) := by decide +kernel
theorem dX9_mineNow_35 : decode cX9_mineNow 35 = .ok (.goto (-31), 3) := by decide +kernel
theorem dX9_mineNow_38 : decode cX9_mineNow 38 = .ok (.iload_n 2, 1) := by decide +kernel
theorem dX9_mineNow_39 : decode cX9_mineNow 39 = .ok (.ireturn, 1) := by decide +kernel
theorem dX9_mineOf_0 : decode cX9_mineOf 0 = .ok (.aload_n 0, 1) := by decide +kernel
theorem dX9_mineOf_1 : decode cX9_mineOf 1 = .ok (.invokevirtual 262, 3) := by decide +kernel
theorem dX9_mineOf_4 : decode cX9_mineOf 4 = .ok (.aload_n 0, 1) := by decide +kernel
theorem dX9_mineOf_5 : decode cX9_mineOf 5 = .ok (.iload_n 1, 1) := by decide +kernel
theorem dX9_mineOf_6 : decode cX9_mineOf 6 = .ok (.invokevirtual 281, 3) := by decide +kernel
theorem dX9_mineOf_9 : decode cX9_mineOf 9 = .ok (.ireturn, 1) := by decide +kernel
theorem dX9_mine_0 : decode cX9_mine 0 = .ok (.iload_n 1, 1) := by decide +kernel
theorem dX9_mine_1 : decode cX9_mine 1 = .ok (.invokestatic 111, 3) := by decide +kernel
theorem dX9_mine_4 : decode cX9_mine 4 = .ok (.ifCond .eq 11, 3) := by decide +kernel
theorem dX9_mine_7 : decode cX9_mine 7 = .ok (.aload_n 0, 1) := by decide +kernel
theorem dX9_mine_8 : decode cX9_mine 8 = .ok (.iload_n 1, 1) := by decide +kernel
theorem dX9_mine_9 : decode cX9_mine 9 = .ok (.invokevirtual 284, 3) := by decide +kernel
theorem dX9_mine_12 : decode cX9_mine 12 = .ok (.goto 5, 3) := by decide +kernel
theorem dX9_mine_15 : decode cX9_mine 15 = .ok (.bipush (-2), 2) := by decide +kernel
theorem dX9_mine_17 : decode cX9_mine 17 = .ok (.ireturn, 1) := by decide +kernel
theorem dX9_bestNow_0 : decode cX9_bestNow 0 = .ok (.aload_n 0, 1) := by decide +kernel
theorem dX9_bestNow_1 : decode cX9_bestNow 1 = .ok (.invokevirtual 262, 3) := by decide +kernel
theorem dX9_bestNow_4 : decode cX9_bestNow 4 = .ok (.iconst (-1), 1) := by decide +kernel
theorem dX9_bestNow_5 : decode cX9_bestNow 5 = .ok (.istore_n 1, 1) := by decide +kernel
theorem dX9_bestNow_6 : decode cX9_bestNow 6 = .ok (.iconst 0, 1) := by decide +kernel
theorem dX9_bestNow_7 : decode cX9_bestNow 7 = .ok (.istore_n 2, 1) := by decide +kernel
theorem dX9_bestNow_8 : decode cX9_bestNow 8 = .ok (.iconst 0, 1) := by decide +kernel
theorem dX9_bestNow_9 : decode cX9_bestNow 9 = .ok (.istore_n 3, 1) := by decide +kernel
theorem dX9_bestNow_10 : decode cX9_bestNow 10 = .ok (.iload_n 3, 1) := by decide +kernel
theorem dX9_bestNow_11 : decode cX9_bestNow 11 = .ok (.bipush 8, 2) := by decide +kernel
theorem dX9_bestNow_13 : decode cX9_bestNow 13 = .ok (.if_icmp .ge 41, 3) := by decide +kernel
theorem dX9_bestNow_16 : decode cX9_bestNow 16 = .ok (.aload_n 0, 1) := by decide +kernel
theorem dX9_bestNow_17 : decode cX9_bestNow 17 = .ok (.iload_n 3, 1) := by decide +kernel
theorem dX9_bestNow_18 : decode cX9_bestNow 18 = .ok (.invokevirtual 281, 3) := by decide +kernel
theorem dX9_bestNow_21 : decode cX9_bestNow 21 = .ok (.istore 4, 2) := by decide +kernel
theorem dX9_bestNow_23 : decode cX9_bestNow 23 = .ok (.iload 4, 2) := by decide +kernel
theorem dX9_bestNow_25 : decode cX9_bestNow 25 = .ok (.iload_n 2, 1) := by decide +kernel
theorem dX9_bestNow_26 : decode cX9_bestNow 26 = .ok (.if_icmp .le 7, 3) := by decide +kernel
theorem dX9_bestNow_29 : decode cX9_bestNow 29 = .ok (.iload_n 3, 1) := by decide +kernel
theorem dX9_bestNow_30 : decode cX9_bestNow 30 = .ok (.goto 4, 3) := by decide +kernel
theorem dX9_bestNow_33 : decode cX9_bestNow 33 = .ok (.iload_n 1, 1) := by decide +kernel
theorem dX9_bestNow_34 : decode cX9_bestNow 34 = .ok (.istore_n 1, 1) := by decide +kernel
theorem dX9_bestNow_35 : decode cX9_bestNow 35 = .ok (.iload 4, 2) := by decide +kernel
theorem dX9_bestNow_37 : decode cX9_bestNow 37 = .ok (.iload_n 2, 1) := by decide +kernel
theorem dX9_bestNow_38 : decode cX9_bestNow 38 = .ok (.if_icmp .le 8, 3) := by decide +kernel
theorem dX9_bestNow_41 : decode cX9_bestNow 41 = .ok (.iload 4, 2) := by decide +kernel
theorem dX9_bestNow_43 : decode cX9_bestNow 43 = .ok (.goto 4, 3) := by decide +kernel
theorem dX9_bestNow_46 : decode cX9_bestNow 46 = .ok (.iload_n 2, 1) := by decide +kernel
theorem dX9_bestNow_47 : decode cX9_bestNow 47 = .ok (.istore_n 2, 1) := by decide +kernel
theorem dX9_bestNow_48 : decode cX9_bestNow 48 = .ok (.iinc 3 1, 3) := by decide +kernel
theorem dX9_bestNow_51 : decode cX9_bestNow 51 = .ok (.goto (-41), 3) := by decide +kernel
theorem dX9_bestNow_54 : decode cX9_bestNow 54 = .ok (.iload_n 1, 1) := by decide +kernel
theorem dX9_bestNow_55 : decode cX9_bestNow 55 = .ok (.ireturn, 1) := by decide +kernel
theorem dX9_best_0 : decode cX9_best 0 = .ok (.aload_n 0, 1) := by decide +kernel
theorem dX9_best_1 : decode cX9_best 1 = .ok (.invokevirtual 287, 3) := by decide +kernel
theorem dX9_best_4 : decode cX9_best 4 = .ok (.ireturn, 1) := by decide +kernel
theorem dX9_mendOf_0 : decode cX9_mendOf 0 = .ok (.aload_n 0, 1) := by decide +kernel
theorem dX9_mendOf_1 : decode cX9_mendOf 1 = .ok (.invokevirtual 256, 3) := by decide +kernel
theorem dX9_mendOf_4 : decode cX9_mendOf 4 = .ok (.iconst (-1), 1) := by decide +kernel
theorem dX9_mendOf_5 : decode cX9_mendOf 5 = .ok (.istore_n 3, 1) := by decide +kernel
theorem dX9_mendOf_6 : decode cX9_mendOf 6 = .ok (.bipush 99, 2) := by decide +kernel
theorem dX9_mendOf_8 : decode cX9_mendOf 8 = .ok (.istore 4, 2) := by decide +kernel
theorem dX9_mendOf_10 : decode cX9_mendOf 10 = .ok (.aload_n 0, 1) := by decide +kernel
theorem dX9_mendOf_11 : decode cX9_mendOf 11 = .ok (.aload_n 0, 1) := by decide +kernel
theorem dX9_mendOf_12 : decode cX9_mendOf 12 = .ok (.getfield 173, 3) := by decide +kernel
theorem dX9_mendOf_15 : decode cX9_mendOf 15 = .ok (.iconst 1, 1) := by decide +kernel
theorem dX9_mendOf_16 : decode cX9_mendOf 16 = .ok (.iadd, 1) := by decide +kernel
theorem dX9_mendOf_17 : decode cX9_mendOf 17 = .ok (.putfield 191, 3) := by decide +kernel
theorem dX9_mendOf_20 : decode cX9_mendOf 20 = .ok (.aload_n 0, 1) := by decide +kernel
theorem dX9_mendOf_21 : decode cX9_mendOf 21 = .ok (.getfield 31, 3) := by decide +kernel
theorem dX9_mendOf_24 : decode cX9_mendOf 24 = .ok (.aload_n 0, 1) := by decide +kernel
theorem dX9_mendOf_25 : decode cX9_mendOf 25 = .ok (.getfield 173, 3) := by decide +kernel
theorem dX9_mendOf_28 : decode cX9_mendOf 28 = .ok (.iload_n 1, 1) := by decide +kernel
theorem dX9_mendOf_29 : decode cX9_mendOf 29 = .ok (.iastore, 1) := by decide +kernel
theorem dX9_mendOf_30 : decode cX9_mendOf 30 = .ok (.iconst 0, 1) := by decide +kernel
theorem dX9_mendOf_31 : decode cX9_mendOf 31 = .ok (.istore 5, 2) := by decide +kernel
theorem dX9_mendOf_33 : decode cX9_mendOf 33 = .ok (.iload 5, 2) := by decide +kernel
theorem dX9_mendOf_35 : decode cX9_mendOf 35 = .ok (.aload_n 0, 1) := by decide +kernel
theorem dX9_mendOf_36 : decode cX9_mendOf 36 = .ok (.getfield 121, 3) := by decide +kernel
theorem dX9_mendOf_39 : decode cX9_mendOf 39 = .ok (.aload_n 0, 1) := by decide +kernel
theorem dX9_mendOf_40 : decode cX9_mendOf 40 = .ok (.getfield 135, 3) := by decide +kernel
theorem dX9_mendOf_43 : decode cX9_mendOf 43 = .ok (.imul, 1) := by decide +kernel
theorem dX9_mendOf_44 : decode cX9_mendOf 44 = .ok (.if_icmp .ge 81, 3) := by decide +kernel
theorem dX9_mendOf_47 : decode cX9_mendOf 47 = .ok (.aload_n 0, 1) := by decide +kernel
theorem dX9_mendOf_48 : decode cX9_mendOf 48 = .ok (.getfield 34, 3) := by decide +kernel
theorem dX9_mendOf_51 : decode cX9_mendOf 51 = .ok (.aload_n 0, 1) := by decide +kernel
theorem dX9_mendOf_52 : decode cX9_mendOf 52 = .ok (.getfield 173, 3) := by decide +kernel
theorem dX9_mendOf_55 : decode cX9_mendOf 55 = .ok (.iload 5, 2) := by decide +kernel
theorem dX9_mendOf_57 : decode cX9_mendOf 57 = .ok (.aload_n 0, 1) := by decide +kernel
theorem dX9_mendOf_58 : decode cX9_mendOf 58 = .ok (.getfield 135, 3) := by decide +kernel
theorem dX9_mendOf_61 : decode cX9_mendOf 61 = .ok (.idiv, 1) := by decide +kernel
theorem dX9_mendOf_62 : decode cX9_mendOf 62 = .ok (.iastore, 1) := by decide +kernel
theorem dX9_mendOf_63 : decode cX9_mendOf 63 = .ok (.aload_n 0, 1) := by decide +kernel
theorem dX9_mendOf_64 : decode cX9_mendOf 64 = .ok (.getfield 37, 3) := by decide +kernel
theorem dX9_mendOf_67 : decode cX9_mendOf 67 = .ok (.aload_n 0, 1) := by decide +kernel
theorem dX9_mendOf_68 : decode cX9_mendOf 68 = .ok (.getfield 173, 3) := by decide +kernel
theorem dX9_mendOf_71 : decode cX9_mendOf 71 = .ok (.iload 5, 2) := by decide +kernel
theorem dX9_mendOf_73 : decode cX9_mendOf 73 = .ok (.aload_n 0, 1) := by decide +kernel
theorem dX9_mendOf_74 : decode cX9_mendOf 74 = .ok (.getfield 135, 3) := by decide +kernel
theorem dX9_mendOf_77 : decode cX9_mendOf 77 = .ok (.irem, 1) := by decide +kernel
theorem dX9_mendOf_78 : decode cX9_mendOf 78 = .ok (.iastore, 1) := by decide +kernel
theorem dX9_mendOf_79 : decode cX9_mendOf 79 = .ok (.aload_n 0, 1) := by decide +kernel
theorem dX9_mendOf_80 : decode cX9_mendOf 80 = .ok (.invokevirtual 259, 3) := by decide +kernel
theorem dX9_mendOf_83 : decode cX9_mendOf 83 = .ok (.aload_n 0, 1) := by decide +kernel
theorem dX9_mendOf_84 : decode cX9_mendOf 84 = .ok (.getfield 234, 3) := by decide +kernel
theorem dX9_mendOf_87 : decode cX9_mendOf 87 = .ok (.iload 4, 2) := by decide +kernel
theorem dX9_mendOf_89 : decode cX9_mendOf 89 = .ok (.if_icmp .ge 8, 3) := by decide +kernel
theorem dX9_mendOf_92 : decode cX9_mendOf 92 = .ok (.iload 5, 2) := by decide +kernel
theorem dX9_mendOf_94 : decode cX9_mendOf 94 = .ok (.goto 4, 3) := by decide +kernel
theorem dX9_mendOf_97 : decode cX9_mendOf 97 = .ok (.iload_n 3, 1) := by decide +kernel
theorem dX9_mendOf_98 : decode cX9_mendOf 98 = .ok (.istore_n 3, 1) := by decide +kernel
theorem dX9_mendOf_99 : decode cX9_mendOf 99 = .ok (.aload_n 0, 1) := by decide +kernel
theorem dX9_mendOf_100 : decode cX9_mendOf 100 = .ok (.getfield 234, 3) := by decide +kernel
theorem dX9_mendOf_103 : decode cX9_mendOf 103 = .ok (.iload 4, 2) := by decide +kernel
theorem dX9_mendOf_105 : decode cX9_mendOf 105 = .ok (.if_icmp .ge 10, 3) := by decide +kernel
theorem dX9_mendOf_108 : decode cX9_mendOf 108 = .ok (.aload_n 0, 1) := by decide +kernel
theorem dX9_mendOf_109 : decode cX9_mendOf 109 = .ok (.getfield 234, 3) := by decide +kernel
theorem dX9_mendOf_112 : decode cX9_mendOf 112 = .ok (.goto 5, 3) := by decide +kernel
theorem dX9_mendOf_115 : decode cX9_mendOf 115 = .ok (.iload 4, 2) := by decide +kernel
theorem dX9_mendOf_117 : decode cX9_mendOf 117 = .ok (.istore 4, 2) := by decide +kernel
theorem dX9_mendOf_119 : decode cX9_mendOf 119 = .ok (.iinc 5 1, 3) := by decide +kernel
theorem dX9_mendOf_122 : decode cX9_mendOf 122 = .ok (.goto (-89), 3) := by decide +kernel
theorem dX9_mendOf_125 : decode cX9_mendOf 125 = .ok (.iload_n 3, 1) := by decide +kernel
theorem dX9_mendOf_126 : decode cX9_mendOf 126 = .ok (.iconst (-1), 1) := by decide +kernel
theorem dX9_mendOf_127 : decode cX9_mendOf 127 = .ok (.if_icmp .ne 7, 3) := by decide +kernel
theorem dX9_mendOf_130 : decode cX9_mendOf 130 = .ok (.iconst (-1), 1) := by decide +kernel
theorem dX9_mendOf_131 : decode cX9_mendOf 131 = .ok (.goto 32, 3) := by decide +kernel
theorem dX9_mendOf_134 : decode cX9_mendOf 134 = .ok (.iload_n 2, 1) := by decide +kernel
theorem dX9_mendOf_135 : decode cX9_mendOf 135 = .ok (.ifCond .ne 12, 3) := by decide +kernel
theorem dX9_mendOf_138 : decode cX9_mendOf 138 = .ok (.iload_n 3, 1) := by decide +kernel
theorem dX9_mendOf_139 : decode cX9_mendOf 139 = .ok (.aload_n 0, 1) := by decide +kernel
theorem dX9_mendOf_140 : decode cX9_mendOf 140 = .ok (.getfield 135, 3) := by decide +kernel
theorem dX9_mendOf_143 : decode cX9_mendOf 143 = .ok (.idiv, 1) := by decide +kernel
theorem dX9_mendOf_144 : decode cX9_mendOf 144 = .ok (.goto 19, 3) := by decide +kernel
theorem dX9_mendOf_147 : decode cX9_mendOf 147 = .ok (.iload_n 2, 1) := by decide +kernel
theorem dX9_mendOf_148 : decode cX9_mendOf 148 = .ok (.iconst 1, 1) := by decide +kernel
theorem dX9_mendOf_149 : decode cX9_mendOf 149 = .ok (.if_icmp .ne 12, 3) := by decide +kernel
theorem dX9_mendOf_152 : decode cX9_mendOf 152 = .ok (.iload_n 3, 1) := by decide +kernel
theorem dX9_mendOf_153 : decode cX9_mendOf 153 = .ok (.aload_n 0, 1) := by decide +kernel
theorem dX9_mendOf_154 : decode cX9_mendOf 154 = .ok (.getfield 135, 3) := by decide +kernel
theorem dX9_mendOf_157 : decode cX9_mendOf 157 = .ok (.irem, 1) := by decide +kernel
theorem dX9_mendOf_158 : decode cX9_mendOf 158 = .ok (.goto 5, 3) := by decide +kernel
theorem dX9_mendOf_161 : decode cX9_mendOf 161 = .ok (.iload 4, 2) := by decide +kernel
theorem dX9_mendOf_163 : decode cX9_mendOf 163 = .ok (.ireturn, 1) := by decide +kernel
theorem dX9_mend_0 : decode cX9_mend 0 = .ok (.iload_n 1, 1) := by decide +kernel
theorem dX9_mend_1 : decode cX9_mend 1 = .ok (.invokestatic 167, 3) := by decide +kernel
theorem dX9_mend_4 : decode cX9_mend 4 = .ok (.ifCond .eq 21, 3) := by decide +kernel
theorem dX9_mend_7 : decode cX9_mend 7 = .ok (.iload_n 2, 1) := by decide +kernel
theorem dX9_mend_8 : decode cX9_mend 8 = .ok (.iconst 0, 1) := by decide +kernel
theorem dX9_mend_9 : decode cX9_mend 9 = .ok (.iconst 2, 1) := by decide +kernel
theorem dX9_mend_10 : decode cX9_mend 10 = .ok (.invokestatic 107, 3) := by decide +kernel
theorem dX9_mend_13 : decode cX9_mend 13 = .ok (.ifCond .eq 12, 3) := by decide +kernel
theorem dX9_mend_16 : decode cX9_mend 16 = .ok (.aload_n 0, 1) := by decide +kernel
theorem dX9_mend_17 : decode cX9_mend 17 = .ok (.iload_n 1, 1) := by decide +kernel
theorem dX9_mend_18 : decode cX9_mend 18 = .ok (.iload_n 2, 1) := by decide +kernel
theorem dX9_mend_19 : decode cX9_mend 19 = .ok (.invokevirtual 290, 3) := by decide +kernel
theorem dX9_mend_22 : decode cX9_mend 22 = .ok (.goto 5, 3) := by decide +kernel
theorem dX9_mend_25 : decode cX9_mend 25 = .ok (.bipush (-2), 2) := by decide +kernel
theorem dX9_mend_27 : decode cX9_mend 27 = .ok (.ireturn, 1) := by decide +kernel
theorem dX9_firmOf_0 : decode cX9_firmOf 0 = .ok (.aload_n 0, 1) := by decide +kernel
theorem dX9_firmOf_1 : decode cX9_firmOf 1 = .ok (.invokevirtual 256, 3) := by decide +kernel
theorem dX9_firmOf_4 : decode cX9_firmOf 4 = .ok (.aload_n 0, 1) := by decide +kernel
theorem dX9_firmOf_5 : decode cX9_firmOf 5 = .ok (.getfield 22, 3) := by decide +kernel
theorem dX9_firmOf_8 : decode cX9_firmOf 8 = .ok (.iload_n 1, 1) := by decide +kernel
theorem dX9_firmOf_9 : decode cX9_firmOf 9 = .ok (.iaload, 1) := by decide +kernel
theorem dX9_firmOf_10 : decode cX9_firmOf 10 = .ok (.istore_n 2, 1) := by decide +kernel
theorem dX9_firmOf_11 : decode cX9_firmOf 11 = .ok (.iconst (-1), 1) := by decide +kernel
theorem dX9_firmOf_12 : decode cX9_firmOf 12 = .ok (.istore_n 3, 1) := by decide +kernel
theorem dX9_firmOf_13 : decode cX9_firmOf 13 = .ok (.iconst 1, 1) := by decide +kernel
theorem dX9_firmOf_14 : decode cX9_firmOf 14 = .ok (.istore 4, 2) := by decide +kernel
theorem dX9_firmOf_16 : decode cX9_firmOf 16 = .ok (.iload 4, 2) := by decide +kernel
theorem dX9_firmOf_18 : decode cX9_firmOf 18 = .ok (.bipush 10, 2) := by decide +kernel
theorem dX9_firmOf_20 : decode cX9_firmOf 20 = .ok (.if_icmp .ge 42, 3) := by decide +kernel
theorem dX9_firmOf_23 : decode cX9_firmOf 23 = .ok (.iload_n 3, 1) := by decide +kernel
theorem dX9_firmOf_24 : decode cX9_firmOf 24 = .ok (.iconst (-1), 1) := by decide +kernel
theorem dX9_firmOf_25 : decode cX9_firmOf 25 = .ok (.if_icmp .ne 37, 3) := by decide +kernel
theorem dX9_firmOf_28 : decode cX9_firmOf 28 = .ok (.aload_n 0, 1) := by decide +kernel
theorem dX9_firmOf_29 : decode cX9_firmOf 29 = .ok (.getfield 22, 3) := by decide +kernel
theorem dX9_firmOf_32 : decode cX9_firmOf 32 = .ok (.iload_n 1, 1) := by decide +kernel
theorem dX9_firmOf_33 : decode cX9_firmOf 33 = .ok (.iload 4, 2) := by decide +kernel
theorem dX9_firmOf_35 : decode cX9_firmOf 35 = .ok (.iastore, 1) := by decide +kernel
theorem dX9_firmOf_36 : decode cX9_firmOf 36 = .ok (.aload_n 0, 1) := by decide +kernel
theorem dX9_firmOf_37 : decode cX9_firmOf 37 = .ok (.invokevirtual 259, 3) := by decide +kernel
theorem dX9_firmOf_40 : decode cX9_firmOf 40 = .ok (.aload_n 0, 1) := by decide +kernel
theorem dX9_firmOf_41 : decode cX9_firmOf 41 = .ok (.getfield 52, 3) := by decide +kernel
theorem dX9_firmOf_44 : decode cX9_firmOf 44 = .ok (.iload_n 1, 1) := by decide +kernel
theorem dX9_firmOf_45 : decode cX9_firmOf 45 = .ok (.iaload, 1) := by decide +kernel
theorem dX9_firmOf_46 : decode cX9_firmOf 46 = .ok (.ifCond .ne 8, 3) := by decide +kernel
theorem dX9_firmOf_49 : decode cX9_firmOf 49 = .ok (.iload 4, 2) := by decide +kernel
theorem dX9_firmOf_51 : decode cX9_firmOf 51 = .ok (.goto 4, 3) := by decide +kernel
theorem dX9_firmOf_54 : decode cX9_firmOf 54 = .ok (.iconst (-1), 1) := by decide +kernel
theorem dX9_firmOf_55 : decode cX9_firmOf 55 = .ok (.istore_n 3, 1) := by decide +kernel
theorem dX9_firmOf_56 : decode cX9_firmOf 56 = .ok (.iinc 4 1, 3) := by decide +kernel
theorem dX9_firmOf_59 : decode cX9_firmOf 59 = .ok (.goto (-43), 3) := by decide +kernel
theorem dX9_firmOf_62 : decode cX9_firmOf 62 = .ok (.aload_n 0, 1) := by decide +kernel
theorem dX9_firmOf_63 : decode cX9_firmOf 63 = .ok (.getfield 22, 3) := by decide +kernel
theorem dX9_firmOf_66 : decode cX9_firmOf 66 = .ok (.iload_n 1, 1) := by decide +kernel
theorem dX9_firmOf_67 : decode cX9_firmOf 67 = .ok (.iload_n 2, 1) := by decide +kernel
theorem dX9_firmOf_68 : decode cX9_firmOf 68 = .ok (.iastore, 1) := by decide +kernel
theorem dX9_firmOf_69 : decode cX9_firmOf 69 = .ok (.iload_n 3, 1) := by decide +kernel
theorem dX9_firmOf_70 : decode cX9_firmOf 70 = .ok (.ireturn, 1) := by decide +kernel
theorem dX9_firm_0 : decode cX9_firm 0 = .ok (.aload_n 0, 1) := by decide +kernel
theorem dX9_firm_1 : decode cX9_firm 1 = .ok (.iload_n 1, 1) := by decide +kernel
theorem dX9_firm_2 : decode cX9_firm 2 = .ok (.invokevirtual 161, 3) := by decide +kernel
theorem dX9_firm_5 : decode cX9_firm 5 = .ok (.ifCond .eq 11, 3) := by decide +kernel
theorem dX9_firm_8 : decode cX9_firm 8 = .ok (.aload_n 0, 1) := by decide +kernel
theorem dX9_firm_9 : decode cX9_firm 9 = .ok (.iload_n 1, 1) := by decide +kernel
theorem dX9_firm_10 : decode cX9_firm 10 = .ok (.invokevirtual 293, 3) := by decide +kernel
theorem dX9_firm_13 : decode cX9_firm 13 = .ok (.goto 5, 3) := by decide +kernel
theorem dX9_firm_16 : decode cX9_firm 16 = .ok (.bipush (-2), 2) := by decide +kernel
theorem dX9_firm_18 : decode cX9_firm 18 = .ok (.ireturn, 1) := by decide +kernel
theorem dX9_relayOf_0 : decode cX9_relayOf 0 = .ok (.aload_n 0, 1) := by decide +kernel
theorem dX9_relayOf_1 : decode cX9_relayOf 1 = .ok (.invokevirtual 256, 3) := by decide +kernel
theorem dX9_relayOf_4 : decode cX9_relayOf 4 = .ok (.iconst (-1), 1) := by decide +kernel
theorem dX9_relayOf_5 : decode cX9_relayOf 5 = .ok (.istore_n 3, 1) := by decide +kernel
theorem dX9_relayOf_6 : decode cX9_relayOf 6 = .ok (.sipush 9999, 3) := by decide +kernel
theorem dX9_relayOf_9 : decode cX9_relayOf 9 = .ok (.istore 4, 2) := by decide +kernel
theorem dX9_relayOf_11 : decode cX9_relayOf 11 = .ok (.iconst 0, 1) := by decide +kernel
theorem dX9_relayOf_12 : decode cX9_relayOf 12 = .ok (.istore 5, 2) := by decide +kernel
theorem dX9_relayOf_14 : decode cX9_relayOf 14 = .ok (.iload 5, 2) := by decide +kernel
theorem dX9_relayOf_16 : decode cX9_relayOf 16 = .ok (.bipush 40, 2) := by decide +kernel
theorem dX9_relayOf_18 : decode cX9_relayOf 18 = .ok (.if_icmp .ge 81, 3) := by decide +kernel
theorem dX9_relayOf_21 : decode cX9_relayOf 21 = .ok (.aload_n 0, 1) := by decide +kernel
theorem dX9_relayOf_22 : decode cX9_relayOf 22 = .ok (.getfield 16, 3) := by decide +kernel
theorem dX9_relayOf_25 : decode cX9_relayOf 25 = .ok (.iload 5, 2) := by decide +kernel
theorem dX9_relayOf_27 : decode cX9_relayOf 27 = .ok (.iaload, 1) := by decide +kernel
theorem dX9_relayOf_28 : decode cX9_relayOf 28 = .ok (.istore 6, 2) := by decide +kernel
theorem dX9_relayOf_30 : decode cX9_relayOf 30 = .ok (.iload 6, 2) := by decide +kernel
theorem dX9_relayOf_32 : decode cX9_relayOf 32 = .ok (.iconst (-1), 1) := by decide +kernel
theorem dX9_relayOf_33 : decode cX9_relayOf 33 = .ok (.if_icmp .eq 60, 3) := by decide +kernel
theorem dX9_relayOf_36 : decode cX9_relayOf 36 = .ok (.aload_n 0, 1) := by decide +kernel
theorem dX9_relayOf_37 : decode cX9_relayOf 37 = .ok (.getfield 16, 3) := by decide +kernel
theorem dX9_relayOf_40 : decode cX9_relayOf 40 = .ok (.iload 5, 2) := by decide +kernel
theorem dX9_relayOf_42 : decode cX9_relayOf 42 = .ok (.iload_n 1, 1) := by decide +kernel
theorem dX9_relayOf_43 : decode cX9_relayOf 43 = .ok (.iastore, 1) := by decide +kernel
theorem dX9_relayOf_44 : decode cX9_relayOf 44 = .ok (.aload_n 0, 1) := by decide +kernel
theorem dX9_relayOf_45 : decode cX9_relayOf 45 = .ok (.invokevirtual 259, 3) := by decide +kernel
theorem dX9_relayOf_48 : decode cX9_relayOf 48 = .ok (.aload_n 0, 1) := by decide +kernel
theorem dX9_relayOf_49 : decode cX9_relayOf 49 = .ok (.getfield 16, 3) := by decide +kernel
theorem dX9_relayOf_52 : decode cX9_relayOf 52 = .ok (.iload 5, 2) := by decide +kernel
theorem dX9_relayOf_54 : decode cX9_relayOf 54 = .ok (.iload 6, 2) := by decide +kernel
theorem dX9_relayOf_56 : decode cX9_relayOf 56 = .ok (.iastore, 1) := by decide +kernel
theorem dX9_relayOf_57 : decode cX9_relayOf 57 = .ok (.aload_n 0, 1) := by decide +kernel
theorem dX9_relayOf_58 : decode cX9_relayOf 58 = .ok (.getfield 247, 3) := by decide +kernel
theorem dX9_relayOf_61 : decode cX9_relayOf 61 = .ok (.iload 4, 2) := by decide +kernel
theorem dX9_relayOf_63 : decode cX9_relayOf 63 = .ok (.if_icmp .ge 8, 3) := by decide +kernel
theorem dX9_relayOf_66 : decode cX9_relayOf 66 = .ok (.iload 5, 2) := by decide +kernel
theorem dX9_relayOf_68 : decode cX9_relayOf 68 = .ok (.goto 4, 3) := by decide +kernel
theorem dX9_relayOf_71 : decode cX9_relayOf 71 = .ok (.iload_n 3, 1) := by decide +kernel
theorem dX9_relayOf_72 : decode cX9_relayOf 72 = .ok (.istore_n 3, 1) := by decide +kernel
theorem dX9_relayOf_73 : decode cX9_relayOf 73 = .ok (.aload_n 0, 1) := by decide +kernel
theorem dX9_relayOf_74 : decode cX9_relayOf 74 = .ok (.getfield 247, 3) := by decide +kernel
theorem dX9_relayOf_77 : decode cX9_relayOf 77 = .ok (.iload 4, 2) := by decide +kernel
theorem dX9_relayOf_79 : decode cX9_relayOf 79 = .ok (.if_icmp .ge 10, 3) := by decide +kernel
theorem dX9_relayOf_82 : decode cX9_relayOf 82 = .ok (.aload_n 0, 1) := by decide +kernel
theorem dX9_relayOf_83 : decode cX9_relayOf 83 = .ok (.getfield 247, 3) := by decide +kernel
theorem dX9_relayOf_86 : decode cX9_relayOf 86 = .ok (.goto 5, 3) := by decide +kernel
theorem dX9_relayOf_89 : decode cX9_relayOf 89 = .ok (.iload 4, 2) := by decide +kernel
theorem dX9_relayOf_91 : decode cX9_relayOf 91 = .ok (.istore 4, 2) := by decide +kernel
theorem dX9_relayOf_93 : decode cX9_relayOf 93 = .ok (.iinc 5 1, 3) := by decide +kernel
theorem dX9_relayOf_96 : decode cX9_relayOf 96 = .ok (.goto (-82), 3) := by decide +kernel
theorem dX9_relayOf_99 : decode cX9_relayOf 99 = .ok (.iload_n 3, 1) := by decide +kernel
theorem dX9_relayOf_100 : decode cX9_relayOf 100 = .ok (.iconst (-1), 1) := by decide +kernel
theorem dX9_relayOf_101 : decode cX9_relayOf 101 = .ok (.if_icmp .eq 7, 3) := by decide +kernel
theorem dX9_relayOf_104 : decode cX9_relayOf 104 = .ok (.iload_n 2, 1) := by decide +kernel
theorem dX9_relayOf_105 : decode cX9_relayOf 105 = .ok (.ifCond .ne 7, 3) := by decide +kernel
theorem dX9_relayOf_108 : decode cX9_relayOf 108 = .ok (.iload_n 3, 1) := by decide +kernel
theorem dX9_relayOf_109 : decode cX9_relayOf 109 = .ok (.goto 5, 3) := by decide +kernel
theorem dX9_relayOf_112 : decode cX9_relayOf 112 = .ok (.iload 4, 2) := by decide +kernel
theorem dX9_relayOf_114 : decode cX9_relayOf 114 = .ok (.ireturn, 1) := by decide +kernel
theorem dX9_relay_0 : decode cX9_relay 0 = .ok (.aload_n 0, 1) := by decide +kernel
theorem dX9_relay_1 : decode cX9_relay 1 = .ok (.iload_n 1, 1) := by decide +kernel
theorem dX9_relay_2 : decode cX9_relay 2 = .ok (.invokevirtual 161, 3) := by decide +kernel
theorem dX9_relay_5 : decode cX9_relay 5 = .ok (.ifCond .eq 21, 3) := by decide +kernel
theorem dX9_relay_8 : decode cX9_relay 8 = .ok (.iload_n 2, 1) := by decide +kernel
theorem dX9_relay_9 : decode cX9_relay 9 = .ok (.iconst 0, 1) := by decide +kernel
theorem dX9_relay_10 : decode cX9_relay 10 = .ok (.iconst 1, 1) := by decide +kernel
theorem dX9_relay_11 : decode cX9_relay 11 = .ok (.invokestatic 107, 3) := by decide +kernel
theorem dX9_relay_14 : decode cX9_relay 14 = .ok (.ifCond .eq 12, 3) := by decide +kernel
theorem dX9_relay_17 : decode cX9_relay 17 = .ok (.aload_n 0, 1) := by decide +kernel
theorem dX9_relay_18 : decode cX9_relay 18 = .ok (.iload_n 1, 1) := by decide +kernel
theorem dX9_relay_19 : decode cX9_relay 19 = .ok (.iload_n 2, 1) := by decide +kernel
theorem dX9_relay_20 : decode cX9_relay 20 = .ok (.invokevirtual 296, 3) := by decide +kernel
theorem dX9_relay_23 : decode cX9_relay 23 = .ok (.goto 5, 3) := by decide +kernel
theorem dX9_relay_26 : decode cX9_relay 26 = .ok (.bipush (-2), 2) := by decide +kernel
theorem dX9_relay_28 : decode cX9_relay 28 = .ok (.ireturn, 1) := by decide +kernel
theorem dX9_loose_0 : decode cX9_loose 0 = .ok (.iconst 0, 1) := by decide +kernel
theorem dX9_loose_1 : decode cX9_loose 1 = .ok (.istore_n 2, 1) := by decide +kernel
theorem dX9_loose_2 : decode cX9_loose 2 = .ok (.iload_n 2, 1) := by decide +kernel
theorem dX9_loose_3 : decode cX9_loose 3 = .ok (.bipush 40, 2) := by decide +kernel
theorem dX9_loose_5 : decode cX9_loose 5 = .ok (.if_icmp .ge 30, 3) := by decide +kernel
theorem dX9_loose_8 : decode cX9_loose 8 = .ok (.aload_n 0, 1) := by decide +kernel
theorem dX9_loose_9 : decode cX9_loose 9 = .ok (.getfield 40, 3) := by decide +kernel
theorem dX9_loose_12 : decode cX9_loose 12 = .ok (.iload_n 2, 1) := by decide +kernel
theorem dX9_loose_13 : decode cX9_loose 13 = .ok (.iload_n 2, 1) := by decide +kernel
theorem dX9_loose_14 : decode cX9_loose 14 = .ok (.iload_n 1, 1) := by decide +kernel
theorem dX9_loose_15 : decode cX9_loose 15 = .ok (.if_icmp .ne 7, 3) := by decide +kernel
theorem dX9_loose_18 : decode cX9_loose 18 = .ok (.iconst (-1), 1) := by decide +kernel
theorem dX9_loose_19 : decode cX9_loose 19 = .ok (.goto 9, 3) := by decide +kernel
theorem dX9_loose_22 : decode cX9_loose 22 = .ok (.aload_n 0, 1) := by decide +kernel
theorem dX9_loose_23 : decode cX9_loose 23 = .ok (.getfield 16, 3) := by decide +kernel
theorem dX9_loose_26 : decode cX9_loose 26 = .ok (.iload_n 2, 1) := by decide +kernel
theorem dX9_loose_27 : decode cX9_loose 27 = .ok (.iaload, 1) := by decide +kernel
theorem dX9_loose_28 : decode cX9_loose 28 = .ok (.iastore, 1) := by decide +kernel
theorem dX9_loose_29 : decode cX9_loose 29 = .ok (.iinc 2 1, 3) := by decide +kernel
theorem dX9_loose_32 : decode cX9_loose 32 = .ok (.goto (-30), 3) := by decide +kernel
theorem dX9_loose_35 : decode cX9_loose 35 = .ok (.aload_n 0, 1) := by decide +kernel
theorem dX9_loose_36 : decode cX9_loose 36 = .ok (.iconst 0, 1) := by decide +kernel
theorem dX9_loose_37 : decode cX9_loose 37 = .ok (.putfield 212, 3) := by decide +kernel
theorem dX9_loose_40 : decode cX9_loose 40 = .ok (.aload_n 0, 1) := by decide +kernel
theorem dX9_loose_41 : decode cX9_loose 41 = .ok (.invokevirtual 225, 3) := by decide +kernel
theorem dX9_loose_44 : decode cX9_loose 44 = .ok (.aload_n 0, 1) := by decide +kernel
theorem dX9_loose_45 : decode cX9_loose 45 = .ok (.getfield 212, 3) := by decide +kernel
theorem dX9_loose_48 : decode cX9_loose 48 = .ok (.ireturn, 1) := by decide +kernel
theorem dX9_liftOf_0 : decode cX9_liftOf 0 = .ok (.aload_n 0, 1) := by decide +kernel
theorem dX9_liftOf_1 : decode cX9_liftOf 1 = .ok (.invokevirtual 151, 3) := by decide +kernel
theorem dX9_liftOf_4 : decode cX9_liftOf 4 = .ok (.aload_n 0, 1) := by decide +kernel
theorem dX9_liftOf_5 : decode cX9_liftOf 5 = .ok (.getfield 16, 3) := by decide +kernel
theorem dX9_liftOf_8 : decode cX9_liftOf 8 = .ok (.iload_n 1, 1) := by decide +kernel
theorem dX9_liftOf_9 : decode cX9_liftOf 9 = .ok (.iaload, 1) := by decide +kernel
theorem dX9_liftOf_10 : decode cX9_liftOf 10 = .ok (.iconst (-1), 1) := by decide +kernel
theorem dX9_liftOf_11 : decode cX9_liftOf 11 = .ok (.if_icmp .ne 5, 3) := by decide +kernel
theorem dX9_liftOf_14 : decode cX9_liftOf 14 = .ok (.iconst (-1), 1) := by decide +kernel
theorem dX9_liftOf_15 : decode cX9_liftOf 15 = .ok (.ireturn, 1) := by decide +kernel
theorem dX9_liftOf_16 : decode cX9_liftOf 16 = .ok (.aload_n 0, 1) := by decide +kernel
theorem dX9_liftOf_17 : decode cX9_liftOf 17 = .ok (.iconst (-1), 1) := by decide +kernel
theorem dX9_liftOf_18 : decode cX9_liftOf 18 = .ok (.invokevirtual 299, 3) := by decide +kernel
theorem dX9_liftOf_21 : decode cX9_liftOf 21 = .ok (.istore_n 2, 1) := by decide +kernel
theorem dX9_liftOf_22 : decode cX9_liftOf 22 = .ok (.aload_n 0, 1) := by decide +kernel
theorem dX9_liftOf_23 : decode cX9_liftOf 23 = .ok (.getfield 40, 3) := by decide +kernel
theorem dX9_liftOf_26 : decode cX9_liftOf 26 = .ok (.iload_n 1, 1) := by decide +kernel
theorem dX9_liftOf_27 : decode cX9_liftOf 27 = .ok (.iaload, 1) := by decide +kernel
theorem dX9_liftOf_28 : decode cX9_liftOf 28 = .ok (.iconst (-1), 1) := by decide +kernel
theorem dX9_liftOf_29 : decode cX9_liftOf 29 = .ok (.if_icmp .ne 7, 3) := by decide +kernel
theorem dX9_liftOf_32 : decode cX9_liftOf 32 = .ok (.iconst 1, 1) := by decide +kernel
theorem dX9_liftOf_33 : decode cX9_liftOf 33 = .ok (.goto 4, 3) := by decide +kernel
theorem dX9_liftOf_36 : decode cX9_liftOf 36 = .ok (.iconst 0, 1) := by decide +kernel
theorem dX9_liftOf_37 : decode cX9_liftOf 37 = .ok (.istore_n 3, 1) := by decide +kernel
theorem dX9_liftOf_38 : decode cX9_liftOf 38 = .ok (.aload_n 0, 1) := by decide +kernel
theorem dX9_liftOf_39 : decode cX9_liftOf 39 = .ok (.iload_n 1, 1) := by decide +kernel
theorem dX9_liftOf_40 : decode cX9_liftOf 40 = .ok (.invokevirtual 299, 3) := by decide +kernel
theorem dX9_liftOf_43 : decode cX9_liftOf 43 = .ok (.iload_n 2, 1) := by decide +kernel
theorem dX9_liftOf_44 : decode cX9_liftOf 44 = .ok (.iload_n 3, 1) := by decide +kernel
theorem dX9_liftOf_45 : decode cX9_liftOf 45 = .ok (.isub, 1) := by decide +kernel
theorem dX9_liftOf_46 : decode cX9_liftOf 46 = .ok (.isub, 1) := by decide +kernel
theorem dX9_liftOf_47 : decode cX9_liftOf 47 = .ok (.ireturn, 1) := by decide +kernel
theorem dX9_lift_0 : decode cX9_lift 0 = .ok (.iload_n 1, 1) := by decide +kernel
theorem dX9_lift_1 : decode cX9_lift 1 = .ok (.iload_n 2, 1) := by decide +kernel
theorem dX9_lift_2 : decode cX9_lift 2 = .ok (.invokestatic 154, 3) := by decide +kernel
theorem dX9_lift_5 : decode cX9_lift 5 = .ok (.ifCond .eq 16, 3) := by decide +kernel
theorem dX9_lift_8 : decode cX9_lift 8 = .ok (.aload_n 0, 1) := by decide +kernel
theorem dX9_lift_9 : decode cX9_lift 9 = .ok (.bipush 8, 2) := by decide +kernel
theorem dX9_lift_11 : decode cX9_lift 11 = .ok (.iload_n 1, 1) := by decide +kernel
theorem dX9_lift_12 : decode cX9_lift 12 = .ok (.imul, 1) := by decide +kernel
theorem dX9_lift_13 : decode cX9_lift 13 = .ok (.iload_n 2, 1) := by decide +kernel
theorem dX9_lift_14 : decode cX9_lift 14 = .ok (.iadd, 1) := by decide +kernel
theorem dX9_lift_15 : decode cX9_lift 15 = .ok (.invokevirtual 302, 3) := by decide +kernel
theorem dX9_lift_18 : decode cX9_lift 18 = .ok (.goto 5, 3) := by decide +kernel
theorem dX9_lift_21 : decode cX9_lift 21 = .ok (.bipush (-2), 2) := by decide +kernel
theorem dX9_lift_23 : decode cX9_lift 23 = .ok (.ireturn, 1) := by decide +kernel
theorem dX9_seen_0 : decode cX9_seen 0 = .ok (.iload_n 1, 1) := by decide +kernel
theorem dX9_seen_1 : decode cX9_seen 1 = .ok (.invokestatic 167, 3) := by decide +kernel
theorem dX9_seen_4 : decode cX9_seen 4 = .ok (.ifCond .eq 22, 3) := by decide +kernel
theorem dX9_seen_7 : decode cX9_seen 7 = .ok (.iload_n 2, 1) := by decide +kernel
theorem dX9_seen_8 : decode cX9_seen 8 = .ok (.iload_n 3, 1) := by decide +kernel
end
section
theorem dX9_seen_9 : decode cX9_seen 9 = .ok (.invokestatic 154, 3) := by decide +kernel
theorem dX9_seen_12 : decode cX9_seen 12 = .ok (.ifCond .eq 14, 3) := by decide +kernel
theorem dX9_seen_15 : decode cX9_seen 15 = .ok (.iload 4, 2) := by decide +kernel
theorem dX9_seen_17 : decode cX9_seen 17 = .ok (.iconst 0, 1) := by decide +kernel
theorem dX9_seen_18 : decode cX9_seen 18 = .ok (.bipush 8, 2) := by decide +kernel
theorem dX9_seen_20 : decode cX9_seen 20 = .ok (.invokestatic 107, 3) := by decide +kernel
theorem dX9_seen_23 : decode cX9_seen 23 = .ok (.ifCond .ne 6, 3) := by decide +kernel
theorem dX9_seen_26 : decode cX9_seen 26 = .ok (.bipush (-2), 2) := by decide +kernel
theorem dX9_seen_28 : decode cX9_seen 28 = .ok (.ireturn, 1) := by decide +kernel
theorem dX9_seen_29 : decode cX9_seen 29 = .ok (.aload_n 0, 1) := by decide +kernel
theorem dX9_seen_30 : decode cX9_seen 30 = .ok (.getfield 305, 3) := by decide +kernel
theorem dX9_seen_33 : decode cX9_seen 33 = .ok (.bipush 8, 2) := by decide +kernel
theorem dX9_seen_35 : decode cX9_seen 35 = .ok (.if_icmp .ne 6, 3) := by decide +kernel
theorem dX9_seen_38 : decode cX9_seen 38 = .ok (.bipush (-4), 2) := by decide +kernel
theorem dX9_seen_40 : decode cX9_seen 40 = .ok (.ireturn, 1) := by decide +kernel
theorem dX9_seen_41 : decode cX9_seen 41 = .ok (.aload_n 0, 1) := by decide +kernel
theorem dX9_seen_42 : decode cX9_seen 42 = .ok (.getfield 74, 3) := by decide +kernel
theorem dX9_seen_45 : decode cX9_seen 45 = .ok (.aload_n 0, 1) := by decide +kernel
theorem dX9_seen_46 : decode cX9_seen 46 = .ok (.getfield 305, 3) := by decide +kernel
theorem dX9_seen_49 : decode cX9_seen 49 = .ok (.iload_n 1, 1) := by decide +kernel
theorem dX9_seen_50 : decode cX9_seen 50 = .ok (.iastore, 1) := by decide +kernel
theorem dX9_seen_51 : decode cX9_seen 51 = .ok (.aload_n 0, 1) := by decide +kernel
theorem dX9_seen_52 : decode cX9_seen 52 = .ok (.getfield 77, 3) := by decide +kernel
theorem dX9_seen_55 : decode cX9_seen 55 = .ok (.aload_n 0, 1) := by decide +kernel
theorem dX9_seen_56 : decode cX9_seen 56 = .ok (.getfield 305, 3) := by decide +kernel
theorem dX9_seen_59 : decode cX9_seen 59 = .ok (.bipush 8, 2) := by decide +kernel
theorem dX9_seen_61 : decode cX9_seen 61 = .ok (.iload_n 2, 1) := by decide +kernel
theorem dX9_seen_62 : decode cX9_seen 62 = .ok (.imul, 1) := by decide +kernel
theorem dX9_seen_63 : decode cX9_seen 63 = .ok (.iload_n 3, 1) := by decide +kernel
theorem dX9_seen_64 : decode cX9_seen 64 = .ok (.iadd, 1) := by decide +kernel
theorem dX9_seen_65 : decode cX9_seen 65 = .ok (.iastore, 1) := by decide +kernel
theorem dX9_seen_66 : decode cX9_seen 66 = .ok (.aload_n 0, 1) := by decide +kernel
theorem dX9_seen_67 : decode cX9_seen 67 = .ok (.getfield 80, 3) := by decide +kernel
theorem dX9_seen_70 : decode cX9_seen 70 = .ok (.aload_n 0, 1) := by decide +kernel
theorem dX9_seen_71 : decode cX9_seen 71 = .ok (.getfield 305, 3) := by decide +kernel
theorem dX9_seen_74 : decode cX9_seen 74 = .ok (.iload 4, 2) := by decide +kernel
theorem dX9_seen_76 : decode cX9_seen 76 = .ok (.iastore, 1) := by decide +kernel
theorem dX9_seen_77 : decode cX9_seen 77 = .ok (.aload_n 0, 1) := by decide +kernel
theorem dX9_seen_78 : decode cX9_seen 78 = .ok (.dup, 1) := by decide +kernel
theorem dX9_seen_79 : decode cX9_seen 79 = .ok (.getfield 305, 3) := by decide +kernel
theorem dX9_seen_82 : decode cX9_seen 82 = .ok (.iconst 1, 1) := by decide +kernel
theorem dX9_seen_83 : decode cX9_seen 83 = .ok (.iadd, 1) := by decide +kernel
theorem dX9_seen_84 : decode cX9_seen 84 = .ok (.putfield 305, 3) := by decide +kernel
theorem dX9_seen_87 : decode cX9_seen 87 = .ok (.aload_n 0, 1) := by decide +kernel
theorem dX9_seen_88 : decode cX9_seen 88 = .ok (.getfield 305, 3) := by decide +kernel
theorem dX9_seen_91 : decode cX9_seen 91 = .ok (.ireturn, 1) := by decide +kernel
theorem dX9_forget_0 : decode cX9_forget 0 = .ok (.aload_n 0, 1) := by decide +kernel
theorem dX9_forget_1 : decode cX9_forget 1 = .ok (.getfield 305, 3) := by decide +kernel
theorem dX9_forget_4 : decode cX9_forget 4 = .ok (.istore_n 1, 1) := by decide +kernel
theorem dX9_forget_5 : decode cX9_forget 5 = .ok (.aload_n 0, 1) := by decide +kernel
theorem dX9_forget_6 : decode cX9_forget 6 = .ok (.iconst 0, 1) := by decide +kernel
theorem dX9_forget_7 : decode cX9_forget 7 = .ok (.putfield 305, 3) := by decide +kernel
theorem dX9_forget_10 : decode cX9_forget 10 = .ok (.iload_n 1, 1) := by decide +kernel
theorem dX9_forget_11 : decode cX9_forget 11 = .ok (.ireturn, 1) := by decide +kernel
theorem dX9_isSeen_0 : decode cX9_isSeen 0 = .ok (.aload_n 0, 1) := by decide +kernel
theorem dX9_isSeen_1 : decode cX9_isSeen 1 = .ok (.invokevirtual 259, 3) := by decide +kernel
theorem dX9_isSeen_4 : decode cX9_isSeen 4 = .ok (.iconst 1, 1) := by decide +kernel
theorem dX9_isSeen_5 : decode cX9_isSeen 5 = .ok (.istore_n 1, 1) := by decide +kernel
theorem dX9_isSeen_6 : decode cX9_isSeen 6 = .ok (.iconst 0, 1) := by decide +kernel
theorem dX9_isSeen_7 : decode cX9_isSeen 7 = .ok (.istore_n 2, 1) := by decide +kernel
theorem dX9_isSeen_8 : decode cX9_isSeen 8 = .ok (.iload_n 2, 1) := by decide +kernel
theorem dX9_isSeen_9 : decode cX9_isSeen 9 = .ok (.aload_n 0, 1) := by decide +kernel
theorem dX9_isSeen_10 : decode cX9_isSeen 10 = .ok (.getfield 305, 3) := by decide +kernel
theorem dX9_isSeen_13 : decode cX9_isSeen 13 = .ok (.if_icmp .ge 61, 3) := by decide +kernel
theorem dX9_isSeen_16 : decode cX9_isSeen 16 = .ok (.iload_n 1, 1) := by decide +kernel
theorem dX9_isSeen_17 : decode cX9_isSeen 17 = .ok (.ifCond .eq 57, 3) := by decide +kernel
theorem dX9_isSeen_20 : decode cX9_isSeen 20 = .ok (.aload_n 0, 1) := by decide +kernel
theorem dX9_isSeen_21 : decode cX9_isSeen 21 = .ok (.getfield 55, 3) := by decide +kernel
theorem dX9_isSeen_24 : decode cX9_isSeen 24 = .ok (.bipush 40, 2) := by decide +kernel
theorem dX9_isSeen_26 : decode cX9_isSeen 26 = .ok (.aload_n 0, 1) := by decide +kernel
theorem dX9_isSeen_27 : decode cX9_isSeen 27 = .ok (.getfield 74, 3) := by decide +kernel
theorem dX9_isSeen_30 : decode cX9_isSeen 30 = .ok (.iload_n 2, 1) := by decide +kernel
theorem dX9_isSeen_31 : decode cX9_isSeen 31 = .ok (.iaload, 1) := by decide +kernel
theorem dX9_isSeen_32 : decode cX9_isSeen 32 = .ok (.imul, 1) := by decide +kernel
theorem dX9_isSeen_33 : decode cX9_isSeen 33 = .ok (.aload_n 0, 1) := by decide +kernel
theorem dX9_isSeen_34 : decode cX9_isSeen 34 = .ok (.getfield 77, 3) := by decide +kernel
theorem dX9_isSeen_37 : decode cX9_isSeen 37 = .ok (.iload_n 2, 1) := by decide +kernel
theorem dX9_isSeen_38 : decode cX9_isSeen 38 = .ok (.iaload, 1) := by decide +kernel
theorem dX9_isSeen_39 : decode cX9_isSeen 39 = .ok (.iadd, 1) := by decide +kernel
theorem dX9_isSeen_40 : decode cX9_isSeen 40 = .ok (.iaload, 1) := by decide +kernel
theorem dX9_isSeen_41 : decode cX9_isSeen 41 = .ok (.istore_n 3, 1) := by decide +kernel
theorem dX9_isSeen_42 : decode cX9_isSeen 42 = .ok (.iload_n 3, 1) := by decide +kernel
theorem dX9_isSeen_43 : decode cX9_isSeen 43 = .ok (.iconst (-1), 1) := by decide +kernel
theorem dX9_isSeen_44 : decode cX9_isSeen 44 = .ok (.if_icmp .ne 8, 3) := by decide +kernel
theorem dX9_isSeen_47 : decode cX9_isSeen 47 = .ok (.bipush 8, 2) := by decide +kernel
theorem dX9_isSeen_49 : decode cX9_isSeen 49 = .ok (.goto 4, 3) := by decide +kernel
theorem dX9_isSeen_52 : decode cX9_isSeen 52 = .ok (.iload_n 3, 1) := by decide +kernel
theorem dX9_isSeen_53 : decode cX9_isSeen 53 = .ok (.aload_n 0, 1) := by decide +kernel
theorem dX9_isSeen_54 : decode cX9_isSeen 54 = .ok (.getfield 80, 3) := by decide +kernel
theorem dX9_isSeen_57 : decode cX9_isSeen 57 = .ok (.iload_n 2, 1) := by decide +kernel
theorem dX9_isSeen_58 : decode cX9_isSeen 58 = .ok (.iaload, 1) := by decide +kernel
theorem dX9_isSeen_59 : decode cX9_isSeen 59 = .ok (.if_icmp .ne 7, 3) := by decide +kernel
theorem dX9_isSeen_62 : decode cX9_isSeen 62 = .ok (.iconst 1, 1) := by decide +kernel
theorem dX9_isSeen_63 : decode cX9_isSeen 63 = .ok (.goto 4, 3) := by decide +kernel
theorem dX9_isSeen_66 : decode cX9_isSeen 66 = .ok (.iconst 0, 1) := by decide +kernel
theorem dX9_isSeen_67 : decode cX9_isSeen 67 = .ok (.istore_n 1, 1) := by decide +kernel
theorem dX9_isSeen_68 : decode cX9_isSeen 68 = .ok (.iinc 2 1, 3) := by decide +kernel
theorem dX9_isSeen_71 : decode cX9_isSeen 71 = .ok (.goto (-63), 3) := by decide +kernel
theorem dX9_isSeen_74 : decode cX9_isSeen 74 = .ok (.iload_n 1, 1) := by decide +kernel
theorem dX9_isSeen_75 : decode cX9_isSeen 75 = .ok (.ireturn, 1) := by decide +kernel
theorem dX9_neverNow_0 : decode cX9_neverNow 0 = .ok (.aload_n 0, 1) := by decide +kernel
theorem dX9_neverNow_1 : decode cX9_neverNow 1 = .ok (.invokevirtual 256, 3) := by decide +kernel
theorem dX9_neverNow_4 : decode cX9_neverNow 4 = .ok (.iconst 0, 1) := by decide +kernel
theorem dX9_neverNow_5 : decode cX9_neverNow 5 = .ok (.istore_n 1, 1) := by decide +kernel
theorem dX9_neverNow_6 : decode cX9_neverNow 6 = .ok (.iconst 0, 1) := by decide +kernel
theorem dX9_neverNow_7 : decode cX9_neverNow 7 = .ok (.istore_n 2, 1) := by decide +kernel
theorem dX9_neverNow_8 : decode cX9_neverNow 8 = .ok (.iload_n 2, 1) := by decide +kernel
theorem dX9_neverNow_9 : decode cX9_neverNow 9 = .ok (.aload_n 0, 1) := by decide +kernel
theorem dX9_neverNow_10 : decode cX9_neverNow 10 = .ok (.getfield 170, 3) := by decide +kernel
theorem dX9_neverNow_13 : decode cX9_neverNow 13 = .ok (.if_icmp .ge 33, 3) := by decide +kernel
theorem dX9_neverNow_16 : decode cX9_neverNow 16 = .ok (.aload_n 0, 1) := by decide +kernel
theorem dX9_neverNow_17 : decode cX9_neverNow 17 = .ok (.iconst 1, 1) := by decide +kernel
theorem dX9_neverNow_18 : decode cX9_neverNow 18 = .ok (.iload_n 2, 1) := by decide +kernel
theorem dX9_neverNow_19 : decode cX9_neverNow 19 = .ok (.ishl, 1) := by decide +kernel
theorem dX9_neverNow_20 : decode cX9_neverNow 20 = .ok (.putfield 188, 3) := by decide +kernel
theorem dX9_neverNow_23 : decode cX9_neverNow 23 = .ok (.iload_n 1, 1) := by decide +kernel
theorem dX9_neverNow_24 : decode cX9_neverNow 24 = .ok (.aload_n 0, 1) := by decide +kernel
theorem dX9_neverNow_25 : decode cX9_neverNow 25 = .ok (.invokevirtual 308, 3) := by decide +kernel
theorem dX9_neverNow_28 : decode cX9_neverNow 28 = .ok (.ifCond .eq 9, 3) := by decide +kernel
theorem dX9_neverNow_31 : decode cX9_neverNow 31 = .ok (.iconst 1, 1) := by decide +kernel
theorem dX9_neverNow_32 : decode cX9_neverNow 32 = .ok (.iload_n 2, 1) := by decide +kernel
theorem dX9_neverNow_33 : decode cX9_neverNow 33 = .ok (.ishl, 1) := by decide +kernel
theorem dX9_neverNow_34 : decode cX9_neverNow 34 = .ok (.goto 4, 3) := by decide +kernel
theorem dX9_neverNow_37 : decode cX9_neverNow 37 = .ok (.iconst 0, 1) := by decide +kernel
theorem dX9_neverNow_38 : decode cX9_neverNow 38 = .ok (.ior, 1) := by decide +kernel
theorem dX9_neverNow_39 : decode cX9_neverNow 39 = .ok (.istore_n 1, 1) := by decide +kernel
theorem dX9_neverNow_40 : decode cX9_neverNow 40 = .ok (.iinc 2 1, 3) := by decide +kernel
theorem dX9_neverNow_43 : decode cX9_neverNow 43 = .ok (.goto (-35), 3) := by decide +kernel
theorem dX9_neverNow_46 : decode cX9_neverNow 46 = .ok (.iload_n 1, 1) := by decide +kernel
theorem dX9_neverNow_47 : decode cX9_neverNow 47 = .ok (.ireturn, 1) := by decide +kernel
theorem dX9_never_0 : decode cX9_never 0 = .ok (.aload_n 0, 1) := by decide +kernel
theorem dX9_never_1 : decode cX9_never 1 = .ok (.invokevirtual 312, 3) := by decide +kernel
theorem dX9_never_4 : decode cX9_never 4 = .ok (.ireturn, 1) := by decide +kernel
theorem dX9_strongBy_0 : decode cX9_strongBy 0 = .ok (.aload_n 0, 1) := by decide +kernel
theorem dX9_strongBy_1 : decode cX9_strongBy 1 = .ok (.invokevirtual 256, 3) := by decide +kernel
theorem dX9_strongBy_4 : decode cX9_strongBy 4 = .ok (.aload_n 0, 1) := by decide +kernel
theorem dX9_strongBy_5 : decode cX9_strongBy 5 = .ok (.getfield 22, 3) := by decide +kernel
theorem dX9_strongBy_8 : decode cX9_strongBy 8 = .ok (.iload_n 1, 1) := by decide +kernel
theorem dX9_strongBy_9 : decode cX9_strongBy 9 = .ok (.iaload, 1) := by decide +kernel
theorem dX9_strongBy_10 : decode cX9_strongBy 10 = .ok (.istore_n 2, 1) := by decide +kernel
theorem dX9_strongBy_11 : decode cX9_strongBy 11 = .ok (.iconst 0, 1) := by decide +kernel
theorem dX9_strongBy_12 : decode cX9_strongBy 12 = .ok (.istore_n 3, 1) := by decide +kernel
theorem dX9_strongBy_13 : decode cX9_strongBy 13 = .ok (.iconst 1, 1) := by decide +kernel
theorem dX9_strongBy_14 : decode cX9_strongBy 14 = .ok (.istore 4, 2) := by decide +kernel
theorem dX9_strongBy_16 : decode cX9_strongBy 16 = .ok (.iload 4, 2) := by decide +kernel
theorem dX9_strongBy_18 : decode cX9_strongBy 18 = .ok (.bipush 10, 2) := by decide +kernel
theorem dX9_strongBy_20 : decode cX9_strongBy 20 = .ok (.if_icmp .ge 71, 3) := by decide +kernel
theorem dX9_strongBy_23 : decode cX9_strongBy 23 = .ok (.aload_n 0, 1) := by decide +kernel
theorem dX9_strongBy_24 : decode cX9_strongBy 24 = .ok (.getfield 22, 3) := by decide +kernel
theorem dX9_strongBy_27 : decode cX9_strongBy 27 = .ok (.iload_n 1, 1) := by decide +kernel
theorem dX9_strongBy_28 : decode cX9_strongBy 28 = .ok (.iload 4, 2) := by decide +kernel
theorem dX9_strongBy_30 : decode cX9_strongBy 30 = .ok (.iastore, 1) := by decide +kernel
theorem dX9_strongBy_31 : decode cX9_strongBy 31 = .ok (.iload_n 3, 1) := by decide +kernel
theorem dX9_strongBy_32 : decode cX9_strongBy 32 = .ok (.aload_n 0, 1) := by decide +kernel
theorem dX9_strongBy_33 : decode cX9_strongBy 33 = .ok (.invokevirtual 308, 3) := by decide +kernel
theorem dX9_strongBy_36 : decode cX9_strongBy 36 = .ok (.ifCond .eq 10, 3) := by decide +kernel
theorem dX9_strongBy_39 : decode cX9_strongBy 39 = .ok (.iconst 1, 1) := by decide +kernel
theorem dX9_strongBy_40 : decode cX9_strongBy 40 = .ok (.iload 4, 2) := by decide +kernel
theorem dX9_strongBy_42 : decode cX9_strongBy 42 = .ok (.ishl, 1) := by decide +kernel
theorem dX9_strongBy_43 : decode cX9_strongBy 43 = .ok (.goto 4, 3) := by decide +kernel
theorem dX9_strongBy_46 : decode cX9_strongBy 46 = .ok (.iconst 0, 1) := by decide +kernel
theorem dX9_strongBy_47 : decode cX9_strongBy 47 = .ok (.ior, 1) := by decide +kernel
theorem dX9_strongBy_48 : decode cX9_strongBy 48 = .ok (.istore_n 3, 1) := by decide +kernel
theorem dX9_strongBy_49 : decode cX9_strongBy 49 = .ok (.iconst 0, 1) := by decide +kernel
theorem dX9_strongBy_50 : decode cX9_strongBy 50 = .ok (.istore 5, 2) := by decide +kernel
theorem dX9_strongBy_52 : decode cX9_strongBy 52 = .ok (.iload 5, 2) := by decide +kernel
theorem dX9_strongBy_54 : decode cX9_strongBy 54 = .ok (.bipush 20, 2) := by decide +kernel
theorem dX9_strongBy_56 : decode cX9_strongBy 56 = .ok (.if_icmp .ge 29, 3) := by decide +kernel
theorem dX9_strongBy_59 : decode cX9_strongBy 59 = .ok (.aload_n 0, 1) := by decide +kernel
theorem dX9_strongBy_60 : decode cX9_strongBy 60 = .ok (.getfield 83, 3) := by decide +kernel
theorem dX9_strongBy_63 : decode cX9_strongBy 63 = .ok (.bipush 20, 2) := by decide +kernel
theorem dX9_strongBy_65 : decode cX9_strongBy 65 = .ok (.iload 4, 2) := by decide +kernel
theorem dX9_strongBy_67 : decode cX9_strongBy 67 = .ok (.imul, 1) := by decide +kernel
theorem dX9_strongBy_68 : decode cX9_strongBy 68 = .ok (.iload 5, 2) := by decide +kernel
theorem dX9_strongBy_70 : decode cX9_strongBy 70 = .ok (.iadd, 1) := by decide +kernel
theorem dX9_strongBy_71 : decode cX9_strongBy 71 = .ok (.aload_n 0, 1) := by decide +kernel
theorem dX9_strongBy_72 : decode cX9_strongBy 72 = .ok (.getfield 64, 3) := by decide +kernel
theorem dX9_strongBy_75 : decode cX9_strongBy 75 = .ok (.iload 5, 2) := by decide +kernel
theorem dX9_strongBy_77 : decode cX9_strongBy 77 = .ok (.iaload, 1) := by decide +kernel
theorem dX9_strongBy_78 : decode cX9_strongBy 78 = .ok (.iastore, 1) := by decide +kernel
theorem dX9_strongBy_79 : decode cX9_strongBy 79 = .ok (.iinc 5 1, 3) := by decide +kernel
theorem dX9_strongBy_82 : decode cX9_strongBy 82 = .ok (.goto (-30), 3) := by decide +kernel
theorem dX9_strongBy_85 : decode cX9_strongBy 85 = .ok (.iinc 4 1, 3) := by decide +kernel
theorem dX9_strongBy_88 : decode cX9_strongBy 88 = .ok (.goto (-72), 3) := by decide +kernel
theorem dX9_strongBy_91 : decode cX9_strongBy 91 = .ok (.aload_n 0, 1) := by decide +kernel
theorem dX9_strongBy_92 : decode cX9_strongBy 92 = .ok (.getfield 22, 3) := by decide +kernel
theorem dX9_strongBy_95 : decode cX9_strongBy 95 = .ok (.iload_n 1, 1) := by decide +kernel
theorem dX9_strongBy_96 : decode cX9_strongBy 96 = .ok (.iload_n 2, 1) := by decide +kernel
theorem dX9_strongBy_97 : decode cX9_strongBy 97 = .ok (.iastore, 1) := by decide +kernel
theorem dX9_strongBy_98 : decode cX9_strongBy 98 = .ok (.iload_n 3, 1) := by decide +kernel
theorem dX9_strongBy_99 : decode cX9_strongBy 99 = .ok (.ireturn, 1) := by decide +kernel
theorem dX9_moodBy_0 : decode cX9_moodBy 0 = .ok (.aload_n 0, 1) := by decide +kernel
theorem dX9_moodBy_1 : decode cX9_moodBy 1 = .ok (.invokevirtual 256, 3) := by decide +kernel
theorem dX9_moodBy_4 : decode cX9_moodBy 4 = .ok (.aload_n 0, 1) := by decide +kernel
theorem dX9_moodBy_5 : decode cX9_moodBy 5 = .ok (.getfield 19, 3) := by decide +kernel
theorem dX9_moodBy_8 : decode cX9_moodBy 8 = .ok (.iload_n 1, 1) := by decide +kernel
theorem dX9_moodBy_9 : decode cX9_moodBy 9 = .ok (.iaload, 1) := by decide +kernel
theorem dX9_moodBy_10 : decode cX9_moodBy 10 = .ok (.istore_n 2, 1) := by decide +kernel
theorem dX9_moodBy_11 : decode cX9_moodBy 11 = .ok (.iconst 0, 1) := by decide +kernel
theorem dX9_moodBy_12 : decode cX9_moodBy 12 = .ok (.istore_n 3, 1) := by decide +kernel
theorem dX9_moodBy_13 : decode cX9_moodBy 13 = .ok (.iconst 0, 1) := by decide +kernel
theorem dX9_moodBy_14 : decode cX9_moodBy 14 = .ok (.istore 4, 2) := by decide +kernel
theorem dX9_moodBy_16 : decode cX9_moodBy 16 = .ok (.iload 4, 2) := by decide +kernel
theorem dX9_moodBy_18 : decode cX9_moodBy 18 = .ok (.iconst 4, 1) := by decide +kernel
theorem dX9_moodBy_19 : decode cX9_moodBy 19 = .ok (.if_icmp .ge 35, 3) := by decide +kernel
theorem dX9_moodBy_22 : decode cX9_moodBy 22 = .ok (.aload_n 0, 1) := by decide +kernel
theorem dX9_moodBy_23 : decode cX9_moodBy 23 = .ok (.getfield 19, 3) := by decide +kernel
theorem dX9_moodBy_26 : decode cX9_moodBy 26 = .ok (.iload_n 1, 1) := by decide +kernel
theorem dX9_moodBy_27 : decode cX9_moodBy 27 = .ok (.iload 4, 2) := by decide +kernel
theorem dX9_moodBy_29 : decode cX9_moodBy 29 = .ok (.iastore, 1) := by decide +kernel
theorem dX9_moodBy_30 : decode cX9_moodBy 30 = .ok (.iload_n 3, 1) := by decide +kernel
theorem dX9_moodBy_31 : decode cX9_moodBy 31 = .ok (.aload_n 0, 1) := by decide +kernel
theorem dX9_moodBy_32 : decode cX9_moodBy 32 = .ok (.invokevirtual 308, 3) := by decide +kernel
theorem dX9_moodBy_35 : decode cX9_moodBy 35 = .ok (.ifCond .eq 10, 3) := by decide +kernel
theorem dX9_moodBy_38 : decode cX9_moodBy 38 = .ok (.iconst 1, 1) := by decide +kernel
theorem dX9_moodBy_39 : decode cX9_moodBy 39 = .ok (.iload 4, 2) := by decide +kernel
theorem dX9_moodBy_41 : decode cX9_moodBy 41 = .ok (.ishl, 1) := by decide +kernel
theorem dX9_moodBy_42 : decode cX9_moodBy 42 = .ok (.goto 4, 3) := by decide +kernel
theorem dX9_moodBy_45 : decode cX9_moodBy 45 = .ok (.iconst 0, 1) := by decide +kernel
theorem dX9_moodBy_46 : decode cX9_moodBy 46 = .ok (.ior, 1) := by decide +kernel
theorem dX9_moodBy_47 : decode cX9_moodBy 47 = .ok (.istore_n 3, 1) := by decide +kernel
theorem dX9_moodBy_48 : decode cX9_moodBy 48 = .ok (.iinc 4 1, 3) := by decide +kernel
theorem dX9_moodBy_51 : decode cX9_moodBy 51 = .ok (.goto (-35), 3) := by decide +kernel
theorem dX9_moodBy_54 : decode cX9_moodBy 54 = .ok (.aload_n 0, 1) := by decide +kernel
theorem dX9_moodBy_55 : decode cX9_moodBy 55 = .ok (.getfield 19, 3) := by decide +kernel
theorem dX9_moodBy_58 : decode cX9_moodBy 58 = .ok (.iload_n 1, 1) := by decide +kernel
theorem dX9_moodBy_59 : decode cX9_moodBy 59 = .ok (.iload_n 2, 1) := by decide +kernel
theorem dX9_moodBy_60 : decode cX9_moodBy 60 = .ok (.iastore, 1) := by decide +kernel
theorem dX9_moodBy_61 : decode cX9_moodBy 61 = .ok (.iload_n 3, 1) := by decide +kernel
theorem dX9_moodBy_62 : decode cX9_moodBy 62 = .ok (.ireturn, 1) := by decide +kernel
theorem dX9_was_0 : decode cX9_was 0 = .ok (.aload_n 0, 1) := by decide +kernel
theorem dX9_was_1 : decode cX9_was 1 = .ok (.iload_n 1, 1) := by decide +kernel
theorem dX9_was_2 : decode cX9_was 2 = .ok (.invokevirtual 161, 3) := by decide +kernel
theorem dX9_was_5 : decode cX9_was 5 = .ok (.ifCond .eq 32, 3) := by decide +kernel
theorem dX9_was_8 : decode cX9_was 8 = .ok (.iload_n 2, 1) := by decide +kernel
theorem dX9_was_9 : decode cX9_was 9 = .ok (.iconst 0, 1) := by decide +kernel
theorem dX9_was_10 : decode cX9_was 10 = .ok (.iconst 1, 1) := by decide +kernel
theorem dX9_was_11 : decode cX9_was 11 = .ok (.invokestatic 107, 3) := by decide +kernel
theorem dX9_was_14 : decode cX9_was 14 = .ok (.ifCond .eq 23, 3) := by decide +kernel
theorem dX9_was_17 : decode cX9_was 17 = .ok (.iload_n 2, 1) := by decide +kernel
theorem dX9_was_18 : decode cX9_was 18 = .ok (.ifCond .ne 11, 3) := by decide +kernel
theorem dX9_was_21 : decode cX9_was 21 = .ok (.aload_n 0, 1) := by decide +kernel
theorem dX9_was_22 : decode cX9_was 22 = .ok (.iload_n 1, 1) := by decide +kernel
theorem dX9_was_23 : decode cX9_was 23 = .ok (.invokevirtual 315, 3) := by decide +kernel
theorem dX9_was_26 : decode cX9_was 26 = .ok (.goto 13, 3) := by decide +kernel
theorem dX9_was_29 : decode cX9_was 29 = .ok (.aload_n 0, 1) := by decide +kernel
theorem dX9_was_30 : decode cX9_was 30 = .ok (.iload_n 1, 1) := by decide +kernel
theorem dX9_was_31 : decode cX9_was 31 = .ok (.invokevirtual 318, 3) := by decide +kernel
theorem dX9_was_34 : decode cX9_was 34 = .ok (.goto 5, 3) := by decide +kernel
theorem dX9_was_37 : decode cX9_was 37 = .ok (.bipush (-2), 2) := by decide +kernel
theorem dX9_was_39 : decode cX9_was 39 = .ok (.ireturn, 1) := by decide +kernel
theorem dX9_askOf_0 : decode cX9_askOf 0 = .ok (.aload_n 0, 1) := by decide +kernel
theorem dX9_askOf_1 : decode cX9_askOf 1 = .ok (.iload_n 1, 1) := by decide +kernel
theorem dX9_askOf_2 : decode cX9_askOf 2 = .ok (.invokevirtual 315, 3) := by decide +kernel
theorem dX9_askOf_5 : decode cX9_askOf 5 = .ok (.istore_n 2, 1) := by decide +kernel
theorem dX9_askOf_6 : decode cX9_askOf 6 = .ok (.iconst (-1), 1) := by decide +kernel
theorem dX9_askOf_7 : decode cX9_askOf 7 = .ok (.istore_n 3, 1) := by decide +kernel
theorem dX9_askOf_8 : decode cX9_askOf 8 = .ok (.iconst 0, 1) := by decide +kernel
theorem dX9_askOf_9 : decode cX9_askOf 9 = .ok (.istore 4, 2) := by decide +kernel
theorem dX9_askOf_11 : decode cX9_askOf 11 = .ok (.iconst 0, 1) := by decide +kernel
theorem dX9_askOf_12 : decode cX9_askOf 12 = .ok (.istore 5, 2) := by decide +kernel
theorem dX9_askOf_14 : decode cX9_askOf 14 = .ok (.iload 5, 2) := by decide +kernel
theorem dX9_askOf_16 : decode cX9_askOf 16 = .ok (.bipush 20, 2) := by decide +kernel
theorem dX9_askOf_18 : decode cX9_askOf 18 = .ok (.if_icmp .ge 165, 3) := by decide +kernel
theorem dX9_askOf_21 : decode cX9_askOf 21 = .ok (.iconst 0, 1) := by decide +kernel
theorem dX9_askOf_22 : decode cX9_askOf 22 = .ok (.istore 6, 2) := by decide +kernel
theorem dX9_askOf_24 : decode cX9_askOf 24 = .ok (.iconst 1, 1) := by decide +kernel
theorem dX9_askOf_25 : decode cX9_askOf 25 = .ok (.istore 7, 2) := by decide +kernel
theorem dX9_askOf_27 : decode cX9_askOf 27 = .ok (.iload 7, 2) := by decide +kernel
theorem dX9_askOf_29 : decode cX9_askOf 29 = .ok (.bipush 10, 2) := by decide +kernel
theorem dX9_askOf_31 : decode cX9_askOf 31 = .ok (.if_icmp .ge 101, 3) := by decide +kernel
theorem dX9_askOf_34 : decode cX9_askOf 34 = .ok (.iconst 0, 1) := by decide +kernel
theorem dX9_askOf_35 : decode cX9_askOf 35 = .ok (.istore 8, 2) := by decide +kernel
theorem dX9_askOf_37 : decode cX9_askOf 37 = .ok (.iconst 1, 1) := by decide +kernel
theorem dX9_askOf_38 : decode cX9_askOf 38 = .ok (.istore 9, 2) := by decide +kernel
theorem dX9_askOf_40 : decode cX9_askOf 40 = .ok (.iload 9, 2) := by decide +kernel
theorem dX9_askOf_42 : decode cX9_askOf 42 = .ok (.bipush 10, 2) := by decide +kernel
theorem dX9_askOf_44 : decode cX9_askOf 44 = .ok (.if_icmp .ge 66, 3) := by decide +kernel
theorem dX9_askOf_47 : decode cX9_askOf 47 = .ok (.iload 8, 2) := by decide +kernel
theorem dX9_askOf_49 : decode cX9_askOf 49 = .ok (.iload_n 2, 1) := by decide +kernel
theorem dX9_askOf_50 : decode cX9_askOf 50 = .ok (.iload 7, 2) := by decide +kernel
theorem dX9_askOf_52 : decode cX9_askOf 52 = .ok (.invokestatic 237, 3) := by decide +kernel
theorem dX9_askOf_55 : decode cX9_askOf 55 = .ok (.ifCond .eq 45, 3) := by decide +kernel
theorem dX9_askOf_58 : decode cX9_askOf 58 = .ok (.iload_n 2, 1) := by decide +kernel
theorem dX9_askOf_59 : decode cX9_askOf 59 = .ok (.iload 9, 2) := by decide +kernel
theorem dX9_askOf_61 : decode cX9_askOf 61 = .ok (.invokestatic 237, 3) := by decide +kernel
theorem dX9_askOf_64 : decode cX9_askOf 64 = .ok (.ifCond .eq 36, 3) := by decide +kernel
theorem dX9_askOf_67 : decode cX9_askOf 67 = .ok (.aload_n 0, 1) := by decide +kernel
theorem dX9_askOf_68 : decode cX9_askOf 68 = .ok (.getfield 83, 3) := by decide +kernel
theorem dX9_askOf_71 : decode cX9_askOf 71 = .ok (.bipush 20, 2) := by decide +kernel
theorem dX9_askOf_73 : decode cX9_askOf 73 = .ok (.iload 7, 2) := by decide +kernel
theorem dX9_askOf_75 : decode cX9_askOf 75 = .ok (.imul, 1) := by decide +kernel
theorem dX9_askOf_76 : decode cX9_askOf 76 = .ok (.iload 5, 2) := by decide +kernel
theorem dX9_askOf_78 : decode cX9_askOf 78 = .ok (.iadd, 1) := by decide +kernel
theorem dX9_askOf_79 : decode cX9_askOf 79 = .ok (.iaload, 1) := by decide +kernel
theorem dX9_askOf_80 : decode cX9_askOf 80 = .ok (.aload_n 0, 1) := by decide +kernel
theorem dX9_askOf_81 : decode cX9_askOf 81 = .ok (.getfield 83, 3) := by decide +kernel
theorem dX9_askOf_84 : decode cX9_askOf 84 = .ok (.bipush 20, 2) := by decide +kernel
theorem dX9_askOf_86 : decode cX9_askOf 86 = .ok (.iload 9, 2) := by decide +kernel
theorem dX9_askOf_88 : decode cX9_askOf 88 = .ok (.imul, 1) := by decide +kernel
theorem dX9_askOf_89 : decode cX9_askOf 89 = .ok (.iload 5, 2) := by decide +kernel
theorem dX9_askOf_91 : decode cX9_askOf 91 = .ok (.iadd, 1) := by decide +kernel
theorem dX9_askOf_92 : decode cX9_askOf 92 = .ok (.iaload, 1) := by decide +kernel
theorem dX9_askOf_93 : decode cX9_askOf 93 = .ok (.if_icmp .ne 7, 3) := by decide +kernel
theorem dX9_askOf_96 : decode cX9_askOf 96 = .ok (.iconst 1, 1) := by decide +kernel
theorem dX9_askOf_97 : decode cX9_askOf 97 = .ok (.goto 4, 3) := by decide +kernel
theorem dX9_askOf_100 : decode cX9_askOf 100 = .ok (.iconst 0, 1) := by decide +kernel
theorem dX9_askOf_101 : decode cX9_askOf 101 = .ok (.iadd, 1) := by decide +kernel
theorem dX9_askOf_102 : decode cX9_askOf 102 = .ok (.istore 8, 2) := by decide +kernel
theorem dX9_askOf_104 : decode cX9_askOf 104 = .ok (.iinc 9 1, 3) := by decide +kernel
theorem dX9_askOf_107 : decode cX9_askOf 107 = .ok (.goto (-67), 3) := by decide +kernel
theorem dX9_askOf_110 : decode cX9_askOf 110 = .ok (.iload 8, 2) := by decide +kernel
theorem dX9_askOf_112 : decode cX9_askOf 112 = .ok (.iload 6, 2) := by decide +kernel
theorem dX9_askOf_114 : decode cX9_askOf 114 = .ok (.if_icmp .le 8, 3) := by decide +kernel
theorem dX9_askOf_117 : decode cX9_askOf 117 = .ok (.iload 8, 2) := by decide +kernel
theorem dX9_askOf_119 : decode cX9_askOf 119 = .ok (.goto 5, 3) := by decide +kernel
theorem dX9_askOf_122 : decode cX9_askOf 122 = .ok (.iload 6, 2) := by decide +kernel
theorem dX9_askOf_124 : decode cX9_askOf 124 = .ok (.istore 6, 2) := by decide +kernel
theorem dX9_askOf_126 : decode cX9_askOf 126 = .ok (.iinc 7 1, 3) := by decide +kernel
theorem dX9_askOf_129 : decode cX9_askOf 129 = .ok (.goto (-102), 3) := by decide +kernel
theorem dX9_askOf_132 : decode cX9_askOf 132 = .ok (.iload_n 3, 1) := by decide +kernel
theorem dX9_askOf_133 : decode cX9_askOf 133 = .ok (.iconst (-1), 1) := by decide +kernel
theorem dX9_askOf_134 : decode cX9_askOf 134 = .ok (.if_icmp .eq 10, 3) := by decide +kernel
theorem dX9_askOf_137 : decode cX9_askOf 137 = .ok (.iload 6, 2) := by decide +kernel
theorem dX9_askOf_139 : decode cX9_askOf 139 = .ok (.iload 4, 2) := by decide +kernel
theorem dX9_askOf_141 : decode cX9_askOf 141 = .ok (.if_icmp .ge 7, 3) := by decide +kernel
theorem dX9_askOf_144 : decode cX9_askOf 144 = .ok (.iconst 1, 1) := by decide +kernel
theorem dX9_askOf_145 : decode cX9_askOf 145 = .ok (.goto 4, 3) := by decide +kernel
theorem dX9_askOf_148 : decode cX9_askOf 148 = .ok (.iconst 0, 1) := by decide +kernel
theorem dX9_askOf_149 : decode cX9_askOf 149 = .ok (.istore 7, 2) := by decide +kernel
theorem dX9_askOf_151 : decode cX9_askOf 151 = .ok (.iload 7, 2) := by decide +kernel
theorem dX9_askOf_153 : decode cX9_askOf 153 = .ok (.ifCond .eq 8, 3) := by decide +kernel
theorem dX9_askOf_156 : decode cX9_askOf 156 = .ok (.iload 5, 2) := by decide +kernel
theorem dX9_askOf_158 : decode cX9_askOf 158 = .ok (.goto 4, 3) := by decide +kernel
theorem dX9_askOf_161 : decode cX9_askOf 161 = .ok (.iload_n 3, 1) := by decide +kernel
theorem dX9_askOf_162 : decode cX9_askOf 162 = .ok (.istore_n 3, 1) := by decide +kernel
theorem dX9_askOf_163 : decode cX9_askOf 163 = .ok (.iload 7, 2) := by decide +kernel
theorem dX9_askOf_165 : decode cX9_askOf 165 = .ok (.ifCond .eq 8, 3) := by decide +kernel
theorem dX9_askOf_168 : decode cX9_askOf 168 = .ok (.iload 6, 2) := by decide +kernel
theorem dX9_askOf_170 : decode cX9_askOf 170 = .ok (.goto 5, 3) := by decide +kernel
theorem dX9_askOf_173 : decode cX9_askOf 173 = .ok (.iload 4, 2) := by decide +kernel
theorem dX9_askOf_175 : decode cX9_askOf 175 = .ok (.istore 4, 2) := by decide +kernel
theorem dX9_askOf_177 : decode cX9_askOf 177 = .ok (.iinc 5 1, 3) := by decide +kernel
theorem dX9_askOf_180 : decode cX9_askOf 180 = .ok (.goto (-166), 3) := by decide +kernel
theorem dX9_askOf_183 : decode cX9_askOf 183 = .ok (.iload_n 3, 1) := by decide +kernel
theorem dX9_askOf_184 : decode cX9_askOf 184 = .ok (.ireturn, 1) := by decide +kernel
theorem dX9_ask_0 : decode cX9_ask 0 = .ok (.aload_n 0, 1) := by decide +kernel
theorem dX9_ask_1 : decode cX9_ask 1 = .ok (.iload_n 1, 1) := by decide +kernel
theorem dX9_ask_2 : decode cX9_ask 2 = .ok (.invokevirtual 161, 3) := by decide +kernel
theorem dX9_ask_5 : decode cX9_ask 5 = .ok (.ifCond .eq 11, 3) := by decide +kernel
theorem dX9_ask_8 : decode cX9_ask 8 = .ok (.aload_n 0, 1) := by decide +kernel
theorem dX9_ask_9 : decode cX9_ask 9 = .ok (.iload_n 1, 1) := by decide +kernel
theorem dX9_ask_10 : decode cX9_ask 10 = .ok (.invokevirtual 321, 3) := by decide +kernel
theorem dX9_ask_13 : decode cX9_ask 13 = .ok (.goto 5, 3) := by decide +kernel
theorem dX9_ask_16 : decode cX9_ask 16 = .ok (.bipush (-2), 2) := by decide +kernel
theorem dX9_ask_18 : decode cX9_ask 18 = .ok (.ireturn, 1) := by decide +kernel
theorem dX9_luckOf_0 : decode cX9_luckOf 0 = .ok (.aload_n 0, 1) := by decide +kernel
theorem dX9_luckOf_1 : decode cX9_luckOf 1 = .ok (.invokevirtual 256, 3) := by decide +kernel
theorem dX9_luckOf_4 : decode cX9_luckOf 4 = .ok (.lconst 0, 1) := by decide +kernel
theorem dX9_luckOf_5 : decode cX9_luckOf 5 = .ok (.lstore_n 3, 1) := by decide +kernel
theorem dX9_luckOf_6 : decode cX9_luckOf 6 = .ok (.iconst 0, 1) := by decide +kernel
theorem dX9_luckOf_7 : decode cX9_luckOf 7 = .ok (.istore 5, 2) := by decide +kernel
theorem dX9_luckOf_9 : decode cX9_luckOf 9 = .ok (.iload 5, 2) := by decide +kernel
theorem dX9_luckOf_11 : decode cX9_luckOf 11 = .ok (.iconst 1, 1) := by decide +kernel
theorem dX9_luckOf_12 : decode cX9_luckOf 12 = .ok (.aload_n 0, 1) := by decide +kernel
theorem dX9_luckOf_13 : decode cX9_luckOf 13 = .ok (.getfield 170, 3) := by decide +kernel
theorem dX9_luckOf_16 : decode cX9_luckOf 16 = .ok (.ishl, 1) := by decide +kernel
theorem dX9_luckOf_17 : decode cX9_luckOf 17 = .ok (.if_icmp .ge 81, 3) := by decide +kernel
theorem dX9_luckOf_20 : decode cX9_luckOf 20 = .ok (.lconst 1, 1) := by decide +kernel
theorem dX9_luckOf_21 : decode cX9_luckOf 21 = .ok (.lstore 6, 2) := by decide +kernel
theorem dX9_luckOf_23 : decode cX9_luckOf 23 = .ok (.iconst 0, 1) := by decide +kernel
theorem dX9_luckOf_24 : decode cX9_luckOf 24 = .ok (.istore 8, 2) := by decide +kernel
theorem dX9_luckOf_26 : decode cX9_luckOf 26 = .ok (.iload 8, 2) := by decide +kernel
theorem dX9_luckOf_28 : decode cX9_luckOf 28 = .ok (.aload_n 0, 1) := by decide +kernel
theorem dX9_luckOf_29 : decode cX9_luckOf 29 = .ok (.getfield 170, 3) := by decide +kernel
theorem dX9_luckOf_32 : decode cX9_luckOf 32 = .ok (.if_icmp .ge 34, 3) := by decide +kernel
theorem dX9_luckOf_35 : decode cX9_luckOf 35 = .ok (.lload 6, 2) := by decide +kernel
theorem dX9_luckOf_37 : decode cX9_luckOf 37 = .ok (.iload 5, 2) := by decide +kernel
theorem dX9_luckOf_39 : decode cX9_luckOf 39 = .ok (.iload 8, 2) := by decide +kernel
theorem dX9_luckOf_41 : decode cX9_luckOf 41 = .ok (.invokestatic 237, 3) := by decide +kernel
theorem dX9_luckOf_44 : decode cX9_luckOf 44 = .ok (.ifCond .eq 11, 3) := by decide +kernel
theorem dX9_luckOf_47 : decode cX9_luckOf 47 = .ok (.bipush 16, 2) := by decide +kernel
theorem dX9_luckOf_49 : decode cX9_luckOf 49 = .ok (.iload_n 1, 1) := by decide +kernel
theorem dX9_luckOf_50 : decode cX9_luckOf 50 = .ok (.isub, 1) := by decide +kernel
theorem dX9_luckOf_51 : decode cX9_luckOf 51 = .ok (.i2l, 1) := by decide +kernel
theorem dX9_luckOf_52 : decode cX9_luckOf 52 = .ok (.goto 5, 3) := by decide +kernel
theorem dX9_luckOf_55 : decode cX9_luckOf 55 = .ok (.iload_n 1, 1) := by decide +kernel
theorem dX9_luckOf_56 : decode cX9_luckOf 56 = .ok (.i2l, 1) := by decide +kernel
theorem dX9_luckOf_57 : decode cX9_luckOf 57 = .ok (.lmul, 1) := by decide +kernel
theorem dX9_luckOf_58 : decode cX9_luckOf 58 = .ok (.lstore 6, 2) := by decide +kernel
theorem dX9_luckOf_60 : decode cX9_luckOf 60 = .ok (.iinc 8 1, 3) := by decide +kernel
theorem dX9_luckOf_63 : decode cX9_luckOf 63 = .ok (.goto (-37), 3) := by decide +kernel
theorem dX9_luckOf_66 : decode cX9_luckOf 66 = .ok (.aload_n 0, 1) := by decide +kernel
theorem dX9_luckOf_67 : decode cX9_luckOf 67 = .ok (.iload 5, 2) := by decide +kernel
theorem dX9_luckOf_69 : decode cX9_luckOf 69 = .ok (.putfield 188, 3) := by decide +kernel
theorem dX9_luckOf_72 : decode cX9_luckOf 72 = .ok (.aload_n 0, 1) := by decide +kernel
theorem dX9_luckOf_73 : decode cX9_luckOf 73 = .ok (.invokevirtual 259, 3) := by decide +kernel
theorem dX9_luckOf_76 : decode cX9_luckOf 76 = .ok (.lload_n 3, 1) := by decide +kernel
theorem dX9_luckOf_77 : decode cX9_luckOf 77 = .ok (.aload_n 0, 1) := by decide +kernel
theorem dX9_luckOf_78 : decode cX9_luckOf 78 = .ok (.getfield 234, 3) := by decide +kernel
theorem dX9_luckOf_81 : decode cX9_luckOf 81 = .ok (.ifCond .ne 8, 3) := by decide +kernel
theorem dX9_luckOf_84 : decode cX9_luckOf 84 = .ok (.lload 6, 2) := by decide +kernel
theorem dX9_luckOf_86 : decode cX9_luckOf 86 = .ok (.goto 4, 3) := by decide +kernel
theorem dX9_luckOf_89 : decode cX9_luckOf 89 = .ok (.lconst 0, 1) := by decide +kernel
theorem dX9_luckOf_90 : decode cX9_luckOf 90 = .ok (.ladd, 1) := by decide +kernel
theorem dX9_luckOf_91 : decode cX9_luckOf 91 = .ok (.lstore_n 3, 1) := by decide +kernel
theorem dX9_luckOf_92 : decode cX9_luckOf 92 = .ok (.iinc 5 1, 3) := by decide +kernel
theorem dX9_luckOf_95 : decode cX9_luckOf 95 = .ok (.goto (-86), 3) := by decide +kernel
theorem dX9_luckOf_98 : decode cX9_luckOf 98 = .ok (.lload_n 3, 1) := by decide +kernel
theorem dX9_luckOf_99 : decode cX9_luckOf 99 = .ok (.lconst 1, 1) := by decide +kernel
theorem dX9_luckOf_100 : decode cX9_luckOf 100 = .ok (.iconst 4, 1) := by decide +kernel
theorem dX9_luckOf_101 : decode cX9_luckOf 101 = .ok (.aload_n 0, 1) := by decide +kernel
theorem dX9_luckOf_102 : decode cX9_luckOf 102 = .ok (.getfield 170, 3) := by decide +kernel
theorem dX9_luckOf_105 : decode cX9_luckOf 105 = .ok (.imul, 1) := by decide +kernel
theorem dX9_luckOf_106 : decode cX9_luckOf 106 = .ok (.lshl, 1) := by decide +kernel
theorem dX9_luckOf_107 : decode cX9_luckOf 107 = .ok (.iload_n 2, 1) := by decide +kernel
theorem dX9_luckOf_108 : decode cX9_luckOf 108 = .ok (.invokestatic 324, 3) := by decide +kernel
theorem dX9_luckOf_111 : decode cX9_luckOf 111 = .ok (.lreturn, 1) := by decide +kernel
theorem dX9_luck_0 : decode cX9_luck 0 = .ok (.iload_n 1, 1) := by decide +kernel
theorem dX9_luck_1 : decode cX9_luck 1 = .ok (.iconst 0, 1) := by decide +kernel
theorem dX9_luck_2 : decode cX9_luck 2 = .ok (.bipush 16, 2) := by decide +kernel
theorem dX9_luck_4 : decode cX9_luck 4 = .ok (.invokestatic 107, 3) := by decide +kernel
theorem dX9_luck_7 : decode cX9_luck 7 = .ok (.ifCond .eq 21, 3) := by decide +kernel
theorem dX9_luck_10 : decode cX9_luck 10 = .ok (.iload_n 2, 1) := by decide +kernel
theorem dX9_luck_11 : decode cX9_luck 11 = .ok (.iconst 0, 1) := by decide +kernel
theorem dX9_luck_12 : decode cX9_luck 12 = .ok (.iconst 1, 1) := by decide +kernel
theorem dX9_luck_13 : decode cX9_luck 13 = .ok (.invokestatic 107, 3) := by decide +kernel
theorem dX9_luck_16 : decode cX9_luck 16 = .ok (.ifCond .eq 12, 3) := by decide +kernel
theorem dX9_luck_19 : decode cX9_luck 19 = .ok (.aload_n 0, 1) := by decide +kernel
theorem dX9_luck_20 : decode cX9_luck 20 = .ok (.iload_n 1, 1) := by decide +kernel
theorem dX9_luck_21 : decode cX9_luck 21 = .ok (.iload_n 2, 1) := by decide +kernel
theorem dX9_luck_22 : decode cX9_luck 22 = .ok (.invokevirtual 328, 3) := by decide +kernel
theorem dX9_luck_25 : decode cX9_luck 25 = .ok (.goto 8, 3) := by decide +kernel
theorem dX9_luck_28 : decode cX9_luck 28 = .ok (.bipush (-2), 2) := by decide +kernel
theorem dX9_luck_30 : decode cX9_luck 30 = .ok (.invokestatic 332, 3) := by decide +kernel
theorem dX9_luck_33 : decode cX9_luck 33 = .ok (.lreturn, 1) := by decide +kernel
theorem dX9_agesOf_0 : decode cX9_agesOf 0 = .ok (.aload_n 0, 1) := by decide +kernel
theorem dX9_agesOf_1 : decode cX9_agesOf 1 = .ok (.invokevirtual 256, 3) := by decide +kernel
theorem dX9_agesOf_4 : decode cX9_agesOf 4 = .ok (.iload_n 1, 1) := by decide +kernel
theorem dX9_agesOf_5 : decode cX9_agesOf 5 = .ok (.istore 4, 2) := by decide +kernel
theorem dX9_agesOf_7 : decode cX9_agesOf 7 = .ok (.aload_n 0, 1) := by decide +kernel
theorem dX9_agesOf_8 : decode cX9_agesOf 8 = .ok (.iload_n 2, 1) := by decide +kernel
theorem dX9_agesOf_9 : decode cX9_agesOf 9 = .ok (.putfield 185, 3) := by decide +kernel
theorem dX9_agesOf_12 : decode cX9_agesOf 12 = .ok (.iconst 0, 1) := by decide +kernel
theorem dX9_agesOf_13 : decode cX9_agesOf 13 = .ok (.istore 5, 2) := by decide +kernel
theorem dX9_agesOf_15 : decode cX9_agesOf 15 = .ok (.iload 5, 2) := by decide +kernel
theorem dX9_agesOf_17 : decode cX9_agesOf 17 = .ok (.iload_n 2, 1) := by decide +kernel
theorem dX9_agesOf_18 : decode cX9_agesOf 18 = .ok (.if_icmp .ge 65, 3) := by decide +kernel
theorem dX9_agesOf_21 : decode cX9_agesOf 21 = .ok (.ldc_w 336, 3) := by decide +kernel
theorem dX9_agesOf_24 : decode cX9_agesOf 24 = .ok (.iload 4, 2) := by decide +kernel
theorem dX9_agesOf_26 : decode cX9_agesOf 26 = .ok (.imul, 1) := by decide +kernel
theorem dX9_agesOf_27 : decode cX9_agesOf 27 = .ok (.sipush 12345, 3) := by decide +kernel
theorem dX9_agesOf_30 : decode cX9_agesOf 30 = .ok (.iadd, 1) := by decide +kernel
theorem dX9_agesOf_31 : decode cX9_agesOf 31 = .ok (.istore 4, 2) := by decide +kernel
theorem dX9_agesOf_33 : decode cX9_agesOf 33 = .ok (.aload_n 0, 1) := by decide +kernel
theorem dX9_agesOf_34 : decode cX9_agesOf 34 = .ok (.getfield 43, 3) := by decide +kernel
theorem dX9_agesOf_37 : decode cX9_agesOf 37 = .ok (.iload 5, 2) := by decide +kernel
theorem dX9_agesOf_39 : decode cX9_agesOf 39 = .ok (.iload 4, 2) := by decide +kernel
theorem dX9_agesOf_41 : decode cX9_agesOf 41 = .ok (.bipush 16, 2) := by decide +kernel
theorem dX9_agesOf_43 : decode cX9_agesOf 43 = .ok (.iushr, 1) := by decide +kernel
theorem dX9_agesOf_44 : decode cX9_agesOf 44 = .ok (.bipush 20, 2) := by decide +kernel
theorem dX9_agesOf_46 : decode cX9_agesOf 46 = .ok (.irem, 1) := by decide +kernel
theorem dX9_agesOf_47 : decode cX9_agesOf 47 = .ok (.iastore, 1) := by decide +kernel
theorem dX9_agesOf_48 : decode cX9_agesOf 48 = .ok (.ldc_w 336, 3) := by decide +kernel
theorem dX9_agesOf_51 : decode cX9_agesOf 51 = .ok (.iload 4, 2) := by decide +kernel
theorem dX9_agesOf_53 : decode cX9_agesOf 53 = .ok (.imul, 1) := by decide +kernel
theorem dX9_agesOf_54 : decode cX9_agesOf 54 = .ok (.sipush 12345, 3) := by decide +kernel
theorem dX9_agesOf_57 : decode cX9_agesOf 57 = .ok (.iadd, 1) := by decide +kernel
theorem dX9_agesOf_58 : decode cX9_agesOf 58 = .ok (.istore 4, 2) := by decide +kernel
theorem dX9_agesOf_60 : decode cX9_agesOf 60 = .ok (.aload_n 0, 1) := by decide +kernel
theorem dX9_agesOf_61 : decode cX9_agesOf 61 = .ok (.getfield 46, 3) := by decide +kernel
theorem dX9_agesOf_64 : decode cX9_agesOf 64 = .ok (.iload 5, 2) := by decide +kernel
theorem dX9_agesOf_66 : decode cX9_agesOf 66 = .ok (.iload 4, 2) := by decide +kernel
theorem dX9_agesOf_68 : decode cX9_agesOf 68 = .ok (.bipush 16, 2) := by decide +kernel
theorem dX9_agesOf_70 : decode cX9_agesOf 70 = .ok (.iushr, 1) := by decide +kernel
theorem dX9_agesOf_71 : decode cX9_agesOf 71 = .ok (.bipush 15, 2) := by decide +kernel
theorem dX9_agesOf_73 : decode cX9_agesOf 73 = .ok (.irem, 1) := by decide +kernel
theorem dX9_agesOf_74 : decode cX9_agesOf 74 = .ok (.iconst 1, 1) := by decide +kernel
theorem dX9_agesOf_75 : decode cX9_agesOf 75 = .ok (.iadd, 1) := by decide +kernel
theorem dX9_agesOf_76 : decode cX9_agesOf 76 = .ok (.iastore, 1) := by decide +kernel
theorem dX9_agesOf_77 : decode cX9_agesOf 77 = .ok (.iinc 5 1, 3) := by decide +kernel
theorem dX9_agesOf_80 : decode cX9_agesOf 80 = .ok (.goto (-65), 3) := by decide +kernel
theorem dX9_agesOf_83 : decode cX9_agesOf 83 = .ok (.aload_n 0, 1) := by decide +kernel
theorem dX9_agesOf_84 : decode cX9_agesOf 84 = .ok (.invokevirtual 259, 3) := by decide +kernel
theorem dX9_agesOf_87 : decode cX9_agesOf 87 = .ok (.iload_n 3, 1) := by decide +kernel
theorem dX9_agesOf_88 : decode cX9_agesOf 88 = .ok (.ifCond .ne 13, 3) := by decide +kernel
theorem dX9_agesOf_91 : decode cX9_agesOf 91 = .ok (.aload_n 0, 1) := by decide +kernel
theorem dX9_agesOf_92 : decode cX9_agesOf 92 = .ok (.getfield 64, 3) := by decide +kernel
theorem dX9_agesOf_95 : decode cX9_agesOf 95 = .ok (.bipush 19, 2) := by decide +kernel
theorem dX9_agesOf_97 : decode cX9_agesOf 97 = .ok (.iaload, 1) := by decide +kernel
theorem dX9_agesOf_98 : decode cX9_agesOf 98 = .ok (.goto 7, 3) := by decide +kernel
theorem dX9_agesOf_101 : decode cX9_agesOf 101 = .ok (.aload_n 0, 1) := by decide +kernel
theorem dX9_agesOf_102 : decode cX9_agesOf 102 = .ok (.getfield 234, 3) := by decide +kernel
theorem dX9_agesOf_105 : decode cX9_agesOf 105 = .ok (.ireturn, 1) := by decide +kernel
theorem dX9_ages_0 : decode cX9_ages 0 = .ok (.iload_n 2, 1) := by decide +kernel
theorem dX9_ages_1 : decode cX9_ages 1 = .ok (.iconst 0, 1) := by decide +kernel
theorem dX9_ages_2 : decode cX9_ages 2 = .ok (.bipush 6, 2) := by decide +kernel
theorem dX9_ages_4 : decode cX9_ages 4 = .ok (.invokestatic 107, 3) := by decide +kernel
theorem dX9_ages_7 : decode cX9_ages 7 = .ok (.ifCond .eq 22, 3) := by decide +kernel
theorem dX9_ages_10 : decode cX9_ages 10 = .ok (.iload_n 3, 1) := by decide +kernel
theorem dX9_ages_11 : decode cX9_ages 11 = .ok (.iconst 0, 1) := by decide +kernel
theorem dX9_ages_12 : decode cX9_ages 12 = .ok (.iconst 1, 1) := by decide +kernel
theorem dX9_ages_13 : decode cX9_ages 13 = .ok (.invokestatic 107, 3) := by decide +kernel
theorem dX9_ages_16 : decode cX9_ages 16 = .ok (.ifCond .eq 13, 3) := by decide +kernel
theorem dX9_ages_19 : decode cX9_ages 19 = .ok (.aload_n 0, 1) := by decide +kernel
theorem dX9_ages_20 : decode cX9_ages 20 = .ok (.iload_n 1, 1) := by decide +kernel
theorem dX9_ages_21 : decode cX9_ages 21 = .ok (.iload_n 2, 1) := by decide +kernel
theorem dX9_ages_22 : decode cX9_ages 22 = .ok (.iload_n 3, 1) := by decide +kernel
theorem dX9_ages_23 : decode cX9_ages 23 = .ok (.invokevirtual 337, 3) := by decide +kernel
theorem dX9_ages_26 : decode cX9_ages 26 = .ok (.goto 5, 3) := by decide +kernel
theorem dX9_ages_29 : decode cX9_ages 29 = .ok (.bipush (-2), 2) := by decide +kernel
theorem dX9_ages_31 : decode cX9_ages 31 = .ok (.ireturn, 1) := by decide +kernel
theorem dX9_meets_0 : decode cX9_meets 0 = .ok (.aload_n 0, 1) := by decide +kernel
theorem dX9_meets_1 : decode cX9_meets 1 = .ok (.iload_n 1, 1) := by decide +kernel
theorem dX9_meets_2 : decode cX9_meets 2 = .ok (.putfield 340, 3) := by decide +kernel
theorem dX9_meets_5 : decode cX9_meets 5 = .ok (.bipush (-10), 2) := by decide +kernel
theorem dX9_meets_7 : decode cX9_meets 7 = .ok (.iload_n 1, 1) := by decide +kernel
theorem dX9_meets_8 : decode cX9_meets 8 = .ok (.isub, 1) := by decide +kernel
theorem dX9_meets_9 : decode cX9_meets 9 = .ok (.ireturn, 1) := by decide +kernel
theorem dX9_isSheet_0 : decode cX9_isSheet 0 = .ok (.iload_n 0, 1) := by decide +kernel
theorem dX9_isSheet_1 : decode cX9_isSheet 1 = .ok (.iconst 0, 1) := by decide +kernel
theorem dX9_isSheet_2 : decode cX9_isSheet 2 = .ok (.iconst 3, 1) := by decide +kernel
theorem dX9_isSheet_3 : decode cX9_isSheet 3 = .ok (.invokestatic 107, 3) := by decide +kernel
theorem dX9_isSheet_6 : decode cX9_isSheet 6 = .ok (.ireturn, 1) := by decide +kernel
theorem dX9_sheet_0 : decode cX9_sheet 0 = .ok (.iload_n 1, 1) := by decide +kernel
theorem dX9_sheet_1 : decode cX9_sheet 1 = .ok (.invokestatic 176, 3) := by decide +kernel
theorem dX9_sheet_4 : decode cX9_sheet 4 = .ok (.ifCond .eq 18, 3) := by decide +kernel
theorem dX9_sheet_7 : decode cX9_sheet 7 = .ok (.iload_n 2, 1) := by decide +kernel
theorem dX9_sheet_8 : decode cX9_sheet 8 = .ok (.iconst 0, 1) := by decide +kernel
theorem dX9_sheet_9 : decode cX9_sheet 9 = .ok (.iconst 2, 1) := by decide +kernel
theorem dX9_sheet_10 : decode cX9_sheet 10 = .ok (.invokestatic 107, 3) := by decide +kernel
theorem dX9_sheet_13 : decode cX9_sheet 13 = .ok (.ifCond .eq 9, 3) := by decide +kernel
theorem dX9_sheet_16 : decode cX9_sheet 16 = .ok (.iload_n 3, 1) := by decide +kernel
theorem dX9_sheet_17 : decode cX9_sheet 17 = .ok (.bipush 60, 2) := by decide +kernel
theorem dX9_sheet_19 : decode cX9_sheet 19 = .ok (.if_icmp .le 6, 3) := by decide +kernel
theorem dX9_sheet_22 : decode cX9_sheet 22 = .ok (.bipush (-2), 2) := by decide +kernel
theorem dX9_sheet_24 : decode cX9_sheet 24 = .ok (.ireturn, 1) := by decide +kernel
theorem dX9_sheet_25 : decode cX9_sheet 25 = .ok (.iload_n 3, 1) := by decide +kernel
theorem dX9_sheet_26 : decode cX9_sheet 26 = .ok (.ifCond .ge 9, 3) := by decide +kernel
theorem dX9_sheet_29 : decode cX9_sheet 29 = .ok (.aload_n 0, 1) := by decide +kernel
theorem dX9_sheet_30 : decode cX9_sheet 30 = .ok (.iconst 5, 1) := by decide +kernel
theorem dX9_sheet_31 : decode cX9_sheet 31 = .ok (.invokevirtual 179, 3) := by decide +kernel
theorem dX9_sheet_34 : decode cX9_sheet 34 = .ok (.ireturn, 1) := by decide +kernel
theorem dX9_sheet_35 : decode cX9_sheet 35 = .ok (.aload_n 0, 1) := by decide +kernel
theorem dX9_sheet_36 : decode cX9_sheet 36 = .ok (.getfield 86, 3) := by decide +kernel
theorem dX9_sheet_39 : decode cX9_sheet 39 = .ok (.iload_n 1, 1) := by decide +kernel
theorem dX9_sheet_40 : decode cX9_sheet 40 = .ok (.iconst 1, 1) := by decide +kernel
theorem dX9_sheet_41 : decode cX9_sheet 41 = .ok (.bastore, 1) := by decide +kernel
theorem dX9_sheet_42 : decode cX9_sheet 42 = .ok (.aload_n 0, 1) := by decide +kernel
theorem dX9_sheet_43 : decode cX9_sheet 43 = .ok (.getfield 89, 3) := by decide +kernel
theorem dX9_sheet_46 : decode cX9_sheet 46 = .ok (.iload_n 1, 1) := by decide +kernel
theorem dX9_sheet_47 : decode cX9_sheet 47 = .ok (.iload_n 2, 1) := by decide +kernel
theorem dX9_sheet_48 : decode cX9_sheet 48 = .ok (.iastore, 1) := by decide +kernel
theorem dX9_sheet_49 : decode cX9_sheet 49 = .ok (.aload_n 0, 1) := by decide +kernel
theorem dX9_sheet_50 : decode cX9_sheet 50 = .ok (.getfield 92, 3) := by decide +kernel
theorem dX9_sheet_53 : decode cX9_sheet 53 = .ok (.iload_n 1, 1) := by decide +kernel
theorem dX9_sheet_54 : decode cX9_sheet 54 = .ok (.iload_n 3, 1) := by decide +kernel
theorem dX9_sheet_55 : decode cX9_sheet 55 = .ok (.iastore, 1) := by decide +kernel
theorem dX9_sheet_56 : decode cX9_sheet 56 = .ok (.iconst 0, 1) := by decide +kernel
theorem dX9_sheet_57 : decode cX9_sheet 57 = .ok (.istore 4, 2) := by decide +kernel
theorem dX9_sheet_59 : decode cX9_sheet 59 = .ok (.iload 4, 2) := by decide +kernel
theorem dX9_sheet_61 : decode cX9_sheet 61 = .ok (.bipush 60, 2) := by decide +kernel
theorem dX9_sheet_63 : decode cX9_sheet 63 = .ok (.if_icmp .ge 22, 3) := by decide +kernel
theorem dX9_sheet_66 : decode cX9_sheet 66 = .ok (.aload_n 0, 1) := by decide +kernel
theorem dX9_sheet_67 : decode cX9_sheet 67 = .ok (.getfield 95, 3) := by decide +kernel
theorem dX9_sheet_70 : decode cX9_sheet 70 = .ok (.bipush 60, 2) := by decide +kernel
theorem dX9_sheet_72 : decode cX9_sheet 72 = .ok (.iload_n 1, 1) := by decide +kernel
theorem dX9_sheet_73 : decode cX9_sheet 73 = .ok (.imul, 1) := by decide +kernel
theorem dX9_sheet_74 : decode cX9_sheet 74 = .ok (.iload 4, 2) := by decide +kernel
theorem dX9_sheet_76 : decode cX9_sheet 76 = .ok (.iadd, 1) := by decide +kernel
theorem dX9_sheet_77 : decode cX9_sheet 77 = .ok (.iconst 0, 1) := by decide +kernel
theorem dX9_sheet_78 : decode cX9_sheet 78 = .ok (.iastore, 1) := by decide +kernel
theorem dX9_sheet_79 : decode cX9_sheet 79 = .ok (.iinc 4 1, 3) := by decide +kernel
theorem dX9_sheet_82 : decode cX9_sheet 82 = .ok (.goto (-23), 3) := by decide +kernel
theorem dX9_sheet_85 : decode cX9_sheet 85 = .ok (.iload_n 3, 1) := by decide +kernel
theorem dX9_sheet_86 : decode cX9_sheet 86 = .ok (.ireturn, 1) := by decide +kernel
theorem dX9_lose_0 : decode cX9_lose 0 = .ok (.iload_n 1, 1) := by decide +kernel
theorem dX9_lose_1 : decode cX9_lose 1 = .ok (.invokestatic 176, 3) := by decide +kernel
theorem dX9_lose_4 : decode cX9_lose 4 = .ok (.ifCond .ne 6, 3) := by decide +kernel
theorem dX9_lose_7 : decode cX9_lose 7 = .ok (.bipush (-2), 2) := by decide +kernel
theorem dX9_lose_9 : decode cX9_lose 9 = .ok (.ireturn, 1) := by decide +kernel
theorem dX9_lose_10 : decode cX9_lose 10 = .ok (.aload_n 0, 1) := by decide +kernel
theorem dX9_lose_11 : decode cX9_lose 11 = .ok (.getfield 86, 3) := by decide +kernel
theorem dX9_lose_14 : decode cX9_lose 14 = .ok (.iload_n 1, 1) := by decide +kernel
theorem dX9_lose_15 : decode cX9_lose 15 = .ok (.baload, 1) := by decide +kernel
theorem dX9_lose_16 : decode cX9_lose 16 = .ok (.ifCond .ne 9, 3) := by decide +kernel
theorem dX9_lose_19 : decode cX9_lose 19 = .ok (.aload_n 0, 1) := by decide +kernel
theorem dX9_lose_20 : decode cX9_lose 20 = .ok (.iconst 1, 1) := by decide +kernel
theorem dX9_lose_21 : decode cX9_lose 21 = .ok (.invokevirtual 179, 3) := by decide +kernel
theorem dX9_lose_24 : decode cX9_lose 24 = .ok (.ireturn, 1) := by decide +kernel
theorem dX9_lose_25 : decode cX9_lose 25 = .ok (.aload_n 0, 1) := by decide +kernel
theorem dX9_lose_26 : decode cX9_lose 26 = .ok (.getfield 86, 3) := by decide +kernel
theorem dX9_lose_29 : decode cX9_lose 29 = .ok (.iload_n 1, 1) := by decide +kernel
theorem dX9_lose_30 : decode cX9_lose 30 = .ok (.iconst 0, 1) := by decide +kernel
theorem dX9_lose_31 : decode cX9_lose 31 = .ok (.bastore, 1) := by decide +kernel
theorem dX9_lose_32 : decode cX9_lose 32 = .ok (.aload_n 0, 1) := by decide +kernel
theorem dX9_lose_33 : decode cX9_lose 33 = .ok (.getfield 92, 3) := by decide +kernel
theorem dX9_lose_36 : decode cX9_lose 36 = .ok (.iload_n 1, 1) := by decide +kernel
theorem dX9_lose_37 : decode cX9_lose 37 = .ok (.iaload, 1) := by decide +kernel
theorem dX9_lose_38 : decode cX9_lose 38 = .ok (.ireturn, 1) := by decide +kernel
theorem dX9_lacks_0 : decode cX9_lacks 0 = .ok (.aload_n 0, 1) := by decide +kernel
theorem dX9_lacks_1 : decode cX9_lacks 1 = .ok (.getfield 86, 3) := by decide +kernel
theorem dX9_lacks_4 : decode cX9_lacks 4 = .ok (.iload_n 1, 1) := by decide +kernel
theorem dX9_lacks_5 : decode cX9_lacks 5 = .ok (.baload, 1) := by decide +kernel
theorem dX9_lacks_6 : decode cX9_lacks 6 = .ok (.ifCond .ne 7, 3) := by decide +kernel
theorem dX9_lacks_9 : decode cX9_lacks 9 = .ok (.iconst 1, 1) := by decide +kernel
theorem dX9_lacks_10 : decode cX9_lacks 10 = .ok (.goto 38, 3) := by decide +kernel
theorem dX9_lacks_13 : decode cX9_lacks 13 = .ok (.aload_n 0, 1) := by decide +kernel
theorem dX9_lacks_14 : decode cX9_lacks 14 = .ok (.getfield 89, 3) := by decide +kernel
theorem dX9_lacks_17 : decode cX9_lacks 17 = .ok (.iload_n 1, 1) := by decide +kernel
theorem dX9_lacks_18 : decode cX9_lacks 18 = .ok (.iaload, 1) := by decide +kernel
theorem dX9_lacks_19 : decode cX9_lacks 19 = .ok (.iload_n 2, 1) := by decide +kernel
theorem dX9_lacks_20 : decode cX9_lacks 20 = .ok (.if_icmp .eq 7, 3) := by decide +kernel
theorem dX9_lacks_23 : decode cX9_lacks 23 = .ok (.iconst 3, 1) := by decide +kernel
theorem dX9_lacks_24 : decode cX9_lacks 24 = .ok (.goto 24, 3) := by decide +kernel
theorem dX9_lacks_27 : decode cX9_lacks 27 = .ok (.iload_n 3, 1) := by decide +kernel
theorem dX9_lacks_28 : decode cX9_lacks 28 = .ok (.iconst 0, 1) := by decide +kernel
theorem dX9_lacks_29 : decode cX9_lacks 29 = .ok (.aload_n 0, 1) := by decide +kernel
theorem dX9_lacks_30 : decode cX9_lacks 30 = .ok (.getfield 92, 3) := by decide +kernel
theorem dX9_lacks_33 : decode cX9_lacks 33 = .ok (.iload_n 1, 1) := by decide +kernel
theorem dX9_lacks_34 : decode cX9_lacks 34 = .ok (.iaload, 1) := by decide +kernel
theorem dX9_lacks_35 : decode cX9_lacks 35 = .ok (.iconst 1, 1) := by decide +kernel
theorem dX9_lacks_36 : decode cX9_lacks 36 = .ok (.isub, 1) := by decide +kernel
theorem dX9_lacks_37 : decode cX9_lacks 37 = .ok (.invokestatic 107, 3) := by decide +kernel
theorem dX9_lacks_40 : decode cX9_lacks 40 = .ok (.ifCond .eq 7, 3) := by decide +kernel
theorem dX9_lacks_43 : decode cX9_lacks 43 = .ok (.iconst 0, 1) := by decide +kernel
theorem dX9_lacks_44 : decode cX9_lacks 44 = .ok (.goto 4, 3) := by decide +kernel
theorem dX9_lacks_47 : decode cX9_lacks 47 = .ok (.iconst 2, 1) := by decide +kernel
theorem dX9_lacks_48 : decode cX9_lacks 48 = .ok (.ireturn, 1) := by decide +kernel
theorem dX9_keep_0 : decode cX9_keep 0 = .ok (.aload_n 0, 1) := by decide +kernel
theorem dX9_keep_1 : decode cX9_keep 1 = .ok (.getfield 95, 3) := by decide +kernel
theorem dX9_keep_4 : decode cX9_keep 4 = .ok (.bipush 60, 2) := by decide +kernel
theorem dX9_keep_6 : decode cX9_keep 6 = .ok (.iload_n 1, 1) := by decide +kernel
theorem dX9_keep_7 : decode cX9_keep 7 = .ok (.imul, 1) := by decide +kernel
theorem dX9_keep_8 : decode cX9_keep 8 = .ok (.iload_n 2, 1) := by decide +kernel
theorem dX9_keep_9 : decode cX9_keep 9 = .ok (.iadd, 1) := by decide +kernel
theorem dX9_keep_10 : decode cX9_keep 10 = .ok (.aload_n 0, 1) := by decide +kernel
theorem dX9_keep_11 : decode cX9_keep 11 = .ok (.getfield 89, 3) := by decide +kernel
theorem dX9_keep_14 : decode cX9_keep 14 = .ok (.iload_n 1, 1) := by decide +kernel
theorem dX9_keep_15 : decode cX9_keep 15 = .ok (.iaload, 1) := by decide +kernel
theorem dX9_keep_16 : decode cX9_keep 16 = .ok (.ifCond .ne 8, 3) := by decide +kernel
theorem dX9_keep_19 : decode cX9_keep 19 = .ok (.iload_n 3, 1) := by decide +kernel
theorem dX9_keep_20 : decode cX9_keep 20 = .ok (.i2b, 1) := by decide +kernel
theorem dX9_keep_21 : decode cX9_keep 21 = .ok (.goto 19, 3) := by decide +kernel
theorem dX9_keep_24 : decode cX9_keep 24 = .ok (.aload_n 0, 1) := by decide +kernel
theorem dX9_keep_25 : decode cX9_keep 25 = .ok (.getfield 89, 3) := by decide +kernel
theorem dX9_keep_28 : decode cX9_keep 28 = .ok (.iload_n 1, 1) := by decide +kernel
theorem dX9_keep_29 : decode cX9_keep 29 = .ok (.iaload, 1) := by decide +kernel
theorem dX9_keep_30 : decode cX9_keep 30 = .ok (.iconst 1, 1) := by decide +kernel
theorem dX9_keep_31 : decode cX9_keep 31 = .ok (.if_icmp .ne 8, 3) := by decide +kernel
theorem dX9_keep_34 : decode cX9_keep 34 = .ok (.iload_n 3, 1) := by decide +kernel
theorem dX9_keep_35 : decode cX9_keep 35 = .ok (.i2s, 1) := by decide +kernel
theorem dX9_keep_36 : decode cX9_keep 36 = .ok (.goto 4, 3) := by decide +kernel
theorem dX9_keep_39 : decode cX9_keep 39 = .ok (.iload_n 3, 1) := by decide +kernel
theorem dX9_keep_40 : decode cX9_keep 40 = .ok (.iastore, 1) := by decide +kernel
theorem dX9_keep_41 : decode cX9_keep 41 = .ok (.return_, 1) := by decide +kernel
theorem dX9_put_0 : decode cX9_put 0 = .ok (.iload_n 1, 1) := by decide +kernel
theorem dX9_put_1 : decode cX9_put 1 = .ok (.invokestatic 176, 3) := by decide +kernel
theorem dX9_put_4 : decode cX9_put 4 = .ok (.ifCond .eq 12, 3) := by decide +kernel
theorem dX9_put_7 : decode cX9_put 7 = .ok (.iload_n 2, 1) := by decide +kernel
theorem dX9_put_8 : decode cX9_put 8 = .ok (.iconst 0, 1) := by decide +kernel
theorem dX9_put_9 : decode cX9_put 9 = .ok (.iconst 2, 1) := by decide +kernel
theorem dX9_put_10 : decode cX9_put 10 = .ok (.invokestatic 107, 3) := by decide +kernel
theorem dX9_put_13 : decode cX9_put 13 = .ok (.ifCond .ne 6, 3) := by decide +kernel
theorem dX9_put_16 : decode cX9_put 16 = .ok (.bipush (-2), 2) := by decide +kernel
theorem dX9_put_18 : decode cX9_put 18 = .ok (.ireturn, 1) := by decide +kernel
theorem dX9_put_19 : decode cX9_put 19 = .ok (.aload_n 0, 1) := by decide +kernel
theorem dX9_put_20 : decode cX9_put 20 = .ok (.iload_n 1, 1) := by decide +kernel
theorem dX9_put_21 : decode cX9_put 21 = .ok (.iload_n 2, 1) := by decide +kernel
theorem dX9_put_22 : decode cX9_put 22 = .ok (.iload_n 3, 1) := by decide +kernel
theorem dX9_put_23 : decode cX9_put 23 = .ok (.invokevirtual 343, 3) := by decide +kernel
theorem dX9_put_26 : decode cX9_put 26 = .ok (.istore 5, 2) := by decide +kernel
theorem dX9_put_28 : decode cX9_put 28 = .ok (.iload 5, 2) := by decide +kernel
theorem dX9_put_30 : decode cX9_put 30 = .ok (.ifCond .le 10, 3) := by decide +kernel
theorem dX9_put_33 : decode cX9_put 33 = .ok (.aload_n 0, 1) := by decide +kernel
theorem dX9_put_34 : decode cX9_put 34 = .ok (.iload 5, 2) := by decide +kernel
theorem dX9_put_36 : decode cX9_put 36 = .ok (.invokevirtual 179, 3) := by decide +kernel
theorem dX9_put_39 : decode cX9_put 39 = .ok (.ireturn, 1) := by decide +kernel
theorem dX9_put_40 : decode cX9_put 40 = .ok (.aload_n 0, 1) := by decide +kernel
theorem dX9_put_41 : decode cX9_put 41 = .ok (.iload_n 1, 1) := by decide +kernel
theorem dX9_put_42 : decode cX9_put 42 = .ok (.iload_n 3, 1) := by decide +kernel
theorem dX9_put_43 : decode cX9_put 43 = .ok (.iload 4, 2) := by decide +kernel
theorem dX9_put_45 : decode cX9_put 45 = .ok (.invokevirtual 346, 3) := by decide +kernel
theorem dX9_put_48 : decode cX9_put 48 = .ok (.iconst 1, 1) := by decide +kernel
theorem dX9_put_49 : decode cX9_put 49 = .ok (.ireturn, 1) := by decide +kernel
theorem dX9_get_0 : decode cX9_get 0 = .ok (.iload_n 1, 1) := by decide +kernel
theorem dX9_get_1 : decode cX9_get 1 = .ok (.invokestatic 176, 3) := by decide +kernel
theorem dX9_get_4 : decode cX9_get 4 = .ok (.ifCond .eq 12, 3) := by decide +kernel
theorem dX9_get_7 : decode cX9_get 7 = .ok (.iload_n 2, 1) := by decide +kernel
theorem dX9_get_8 : decode cX9_get 8 = .ok (.iconst 0, 1) := by decide +kernel
theorem dX9_get_9 : decode cX9_get 9 = .ok (.iconst 2, 1) := by decide +kernel
theorem dX9_get_10 : decode cX9_get 10 = .ok (.invokestatic 107, 3) := by decide +kernel
theorem dX9_get_13 : decode cX9_get 13 = .ok (.ifCond .ne 7, 3) := by decide +kernel
theorem dX9_get_16 : decode cX9_get 16 = .ok (.ldc_w 350, 3) := by decide +kernel
theorem dX9_get_19 : decode cX9_get 19 = .ok (.ireturn, 1) := by decide +kernel
theorem dX9_get_20 : decode cX9_get 20 = .ok (.aload_n 0, 1) := by decide +kernel
theorem dX9_get_21 : decode cX9_get 21 = .ok (.iload_n 1, 1) := by decide +kernel
theorem dX9_get_22 : decode cX9_get 22 = .ok (.iload_n 2, 1) := by decide +kernel
theorem dX9_get_23 : decode cX9_get 23 = .ok (.iload_n 3, 1) := by decide +kernel
theorem dX9_get_24 : decode cX9_get 24 = .ok (.invokevirtual 343, 3) := by decide +kernel
theorem dX9_get_27 : decode cX9_get 27 = .ok (.istore 4, 2) := by decide +kernel
theorem dX9_get_29 : decode cX9_get 29 = .ok (.iload 4, 2) := by decide +kernel
theorem dX9_get_31 : decode cX9_get 31 = .ok (.ifCond .le 13, 3) := by decide +kernel
theorem dX9_get_34 : decode cX9_get 34 = .ok (.aload_n 0, 1) := by decide +kernel
theorem dX9_get_35 : decode cX9_get 35 = .ok (.iload 4, 2) := by decide +kernel
theorem dX9_get_37 : decode cX9_get 37 = .ok (.putfield 340, 3) := by decide +kernel
theorem dX9_get_40 : decode cX9_get 40 = .ok (.ldc_w 350, 3) := by decide +kernel
theorem dX9_get_43 : decode cX9_get 43 = .ok (.ireturn, 1) := by decide +kernel
theorem dX9_get_44 : decode cX9_get 44 = .ok (.aload_n 0, 1) := by decide +kernel
theorem dX9_get_45 : decode cX9_get 45 = .ok (.getfield 95, 3) := by decide +kernel
theorem dX9_get_48 : decode cX9_get 48 = .ok (.bipush 60, 2) := by decide +kernel
theorem dX9_get_50 : decode cX9_get 50 = .ok (.iload_n 1, 1) := by decide +kernel
theorem dX9_get_51 : decode cX9_get 51 = .ok (.imul, 1) := by decide +kernel
theorem dX9_get_52 : decode cX9_get 52 = .ok (.iload_n 3, 1) := by decide +kernel
theorem dX9_get_53 : decode cX9_get 53 = .ok (.iadd, 1) := by decide +kernel
theorem dX9_get_54 : decode cX9_get 54 = .ok (.iaload, 1) := by decide +kernel
theorem dX9_get_55 : decode cX9_get 55 = .ok (.ireturn, 1) := by decide +kernel
theorem dX9_copy_0 : decode cX9_copy 0 = .ok (.iload_n 1, 1) := by decide +kernel
theorem dX9_copy_1 : decode cX9_copy 1 = .ok (.invokestatic 176, 3) := by decide +kernel
theorem dX9_copy_4 : decode cX9_copy 4 = .ok (.ifCond .eq 10, 3) := by decide +kernel
theorem dX9_copy_7 : decode cX9_copy 7 = .ok (.iload_n 3, 1) := by decide +kernel
theorem dX9_copy_8 : decode cX9_copy 8 = .ok (.invokestatic 176, 3) := by decide +kernel
theorem dX9_copy_11 : decode cX9_copy 11 = .ok (.ifCond .ne 6, 3) := by decide +kernel
theorem dX9_copy_14 : decode cX9_copy 14 = .ok (.bipush (-2), 2) := by decide +kernel
theorem dX9_copy_16 : decode cX9_copy 16 = .ok (.ireturn, 1) := by decide +kernel
theorem dX9_copy_17 : decode cX9_copy 17 = .ok (.aload_n 0, 1) := by decide +kernel
theorem dX9_copy_18 : decode cX9_copy 18 = .ok (.getfield 86, 3) := by decide +kernel
theorem dX9_copy_21 : decode cX9_copy 21 = .ok (.iload_n 1, 1) := by decide +kernel
theorem dX9_copy_22 : decode cX9_copy 22 = .ok (.baload, 1) := by decide +kernel
theorem dX9_copy_23 : decode cX9_copy 23 = .ok (.ifCond .eq 12, 3) := by decide +kernel
theorem dX9_copy_26 : decode cX9_copy 26 = .ok (.aload_n 0, 1) := by decide +kernel
theorem dX9_copy_27 : decode cX9_copy 27 = .ok (.getfield 86, 3) := by decide +kernel
theorem dX9_copy_30 : decode cX9_copy 30 = .ok (.iload_n 3, 1) := by decide +kernel
theorem dX9_copy_31 : decode cX9_copy 31 = .ok (.baload, 1) := by decide +kernel
theorem dX9_copy_32 : decode cX9_copy 32 = .ok (.ifCond .ne 9, 3) := by decide +kernel
theorem dX9_copy_35 : decode cX9_copy 35 = .ok (.aload_n 0, 1) := by decide +kernel
theorem dX9_copy_36 : decode cX9_copy 36 = .ok (.iconst 1, 1) := by decide +kernel
theorem dX9_copy_37 : decode cX9_copy 37 = .ok (.invokevirtual 179, 3) := by decide +kernel
theorem dX9_copy_40 : decode cX9_copy 40 = .ok (.ireturn, 1) := by decide +kernel
theorem dX9_copy_41 : decode cX9_copy 41 = .ok (.aload_n 0, 1) := by decide +kernel
theorem dX9_copy_42 : decode cX9_copy 42 = .ok (.getfield 89, 3) := by decide +kernel
theorem dX9_copy_45 : decode cX9_copy 45 = .ok (.iload_n 1, 1) := by decide +kernel
theorem dX9_copy_46 : decode cX9_copy 46 = .ok (.iaload, 1) := by decide +kernel
theorem dX9_copy_47 : decode cX9_copy 47 = .ok (.aload_n 0, 1) := by decide +kernel
theorem dX9_copy_48 : decode cX9_copy 48 = .ok (.getfield 89, 3) := by decide +kernel
theorem dX9_copy_51 : decode cX9_copy 51 = .ok (.iload_n 3, 1) := by decide +kernel
theorem dX9_copy_52 : decode cX9_copy 52 = .ok (.iaload, 1) := by decide +kernel
theorem dX9_copy_53 : decode cX9_copy 53 = .ok (.if_icmp .eq 9, 3) := by decide +kernel
theorem dX9_copy_56 : decode cX9_copy 56 = .ok (.aload_n 0, 1) := by decide +kernel
theorem dX9_copy_57 : decode cX9_copy 57 = .ok (.iconst 4, 1) := by decide +kernel
theorem dX9_copy_58 : decode cX9_copy 58 = .ok (.invokevirtual 179, 3) := by decide +kernel
theorem dX9_copy_61 : decode cX9_copy 61 = .ok (.ireturn, 1) := by decide +kernel
theorem dX9_copy_62 : decode cX9_copy 62 = .ok (.iload_n 2, 1) := by decide +kernel
theorem dX9_copy_63 : decode cX9_copy 63 = .ok (.ifCond .lt 48, 3) := by decide +kernel
theorem dX9_copy_66 : decode cX9_copy 66 = .ok (.iload 4, 2) := by decide +kernel
theorem dX9_copy_68 : decode cX9_copy 68 = .ok (.ifCond .lt 43, 3) := by decide +kernel
theorem dX9_copy_71 : decode cX9_copy 71 = .ok (.iload 5, 2) := by decide +kernel
theorem dX9_copy_73 : decode cX9_copy 73 = .ok (.ifCond .lt 38, 3) := by decide +kernel
theorem dX9_copy_76 : decode cX9_copy 76 = .ok (.iload_n 2, 1) := by decide +kernel
theorem dX9_copy_77 : decode cX9_copy 77 = .ok (.i2l, 1) := by decide +kernel
theorem dX9_copy_78 : decode cX9_copy 78 = .ok (.iload 5, 2) := by decide +kernel
theorem dX9_copy_80 : decode cX9_copy 80 = .ok (.i2l, 1) := by decide +kernel
theorem dX9_copy_81 : decode cX9_copy 81 = .ok (.ladd, 1) := by decide +kernel
theorem dX9_copy_82 : decode cX9_copy 82 = .ok (.aload_n 0, 1) := by decide +kernel
theorem dX9_copy_83 : decode cX9_copy 83 = .ok (.getfield 92, 3) := by decide +kernel
theorem dX9_copy_86 : decode cX9_copy 86 = .ok (.iload_n 1, 1) := by decide +kernel
theorem dX9_copy_87 : decode cX9_copy 87 = .ok (.iaload, 1) := by decide +kernel
theorem dX9_copy_88 : decode cX9_copy 88 = .ok (.i2l, 1) := by decide +kernel
theorem dX9_copy_89 : decode cX9_copy 89 = .ok (.lcmp, 1) := by decide +kernel
theorem dX9_copy_90 : decode cX9_copy 90 = .ok (.ifCond .gt 21, 3) := by decide +kernel
theorem dX9_copy_93 : decode cX9_copy 93 = .ok (.iload 4, 2) := by decide +kernel
theorem dX9_copy_95 : decode cX9_copy 95 = .ok (.i2l, 1) := by decide +kernel
theorem dX9_copy_96 : decode cX9_copy 96 = .ok (.iload 5, 2) := by decide +kernel
theorem dX9_copy_98 : decode cX9_copy 98 = .ok (.i2l, 1) := by decide +kernel
theorem dX9_copy_99 : decode cX9_copy 99 = .ok (.ladd, 1) := by decide +kernel
theorem dX9_copy_100 : decode cX9_copy 100 = .ok (.aload_n 0, 1) := by decide +kernel
theorem dX9_copy_101 : decode cX9_copy 101 = .ok (.getfield 92, 3) := by decide +kernel
theorem dX9_copy_104 : decode cX9_copy 104 = .ok (.iload_n 3, 1) := by decide +kernel
theorem dX9_copy_105 : decode cX9_copy 105 = .ok (.iaload, 1) := by decide +kernel
theorem dX9_copy_106 : decode cX9_copy 106 = .ok (.i2l, 1) := by decide +kernel
theorem dX9_copy_107 : decode cX9_copy 107 = .ok (.lcmp, 1) := by decide +kernel
theorem dX9_copy_108 : decode cX9_copy 108 = .ok (.ifCond .le 9, 3) := by decide +kernel
theorem dX9_copy_111 : decode cX9_copy 111 = .ok (.aload_n 0, 1) := by decide +kernel
theorem dX9_copy_112 : decode cX9_copy 112 = .ok (.iconst 2, 1) := by decide +kernel
theorem dX9_copy_113 : decode cX9_copy 113 = .ok (.invokevirtual 179, 3) := by decide +kernel
theorem dX9_copy_116 : decode cX9_copy 116 = .ok (.ireturn, 1) := by decide +kernel
theorem dX9_copy_117 : decode cX9_copy 117 = .ok (.iconst 0, 1) := by decide +kernel
theorem dX9_copy_118 : decode cX9_copy 118 = .ok (.istore 6, 2) := by decide +kernel
theorem dX9_copy_120 : decode cX9_copy 120 = .ok (.iload 6, 2) := by decide +kernel
theorem dX9_copy_122 : decode cX9_copy 122 = .ok (.iload 5, 2) := by decide +kernel
theorem dX9_copy_124 : decode cX9_copy 124 = .ok (.if_icmp .ge 30, 3) := by decide +kernel
theorem dX9_copy_127 : decode cX9_copy 127 = .ok (.aload_n 0, 1) := by decide +kernel
theorem dX9_copy_128 : decode cX9_copy 128 = .ok (.getfield 98, 3) := by decide +kernel
theorem dX9_copy_131 : decode cX9_copy 131 = .ok (.iload 6, 2) := by decide +kernel
theorem dX9_copy_133 : decode cX9_copy 133 = .ok (.aload_n 0, 1) := by decide +kernel
theorem dX9_copy_134 : decode cX9_copy 134 = .ok (.getfield 95, 3) := by decide +kernel
theorem dX9_copy_137 : decode cX9_copy 137 = .ok (.bipush 60, 2) := by decide +kernel
theorem dX9_copy_139 : decode cX9_copy 139 = .ok (.iload_n 1, 1) := by decide +kernel
theorem dX9_copy_140 : decode cX9_copy 140 = .ok (.imul, 1) := by decide +kernel
theorem dX9_copy_141 : decode cX9_copy 141 = .ok (.iload_n 2, 1) := by decide +kernel
theorem dX9_copy_142 : decode cX9_copy 142 = .ok (.iadd, 1) := by decide +kernel
theorem dX9_copy_143 : decode cX9_copy 143 = .ok (.iload 6, 2) := by decide +kernel
theorem dX9_copy_145 : decode cX9_copy 145 = .ok (.iadd, 1) := by decide +kernel
theorem dX9_copy_146 : decode cX9_copy 146 = .ok (.iaload, 1) := by decide +kernel
theorem dX9_copy_147 : decode cX9_copy 147 = .ok (.iastore, 1) := by decide +kernel
theorem dX9_copy_148 : decode cX9_copy 148 = .ok (.iinc 6 1, 3) := by decide +kernel
theorem dX9_copy_151 : decode cX9_copy 151 = .ok (.goto (-31), 3) := by decide +kernel
theorem dX9_copy_154 : decode cX9_copy 154 = .ok (.iconst 0, 1) := by decide +kernel
theorem dX9_copy_155 : decode cX9_copy 155 = .ok (.istore 6, 2) := by decide +kernel
theorem dX9_copy_157 : decode cX9_copy 157 = .ok (.iload 6, 2) := by decide +kernel
theorem dX9_copy_159 : decode cX9_copy 159 = .ok (.iload 5, 2) := by decide +kernel
theorem dX9_copy_161 : decode cX9_copy 161 = .ok (.if_icmp .ge 31, 3) := by decide +kernel
theorem dX9_copy_164 : decode cX9_copy 164 = .ok (.aload_n 0, 1) := by decide +kernel
theorem dX9_copy_165 : decode cX9_copy 165 = .ok (.getfield 95, 3) := by decide +kernel
theorem dX9_copy_168 : decode cX9_copy 168 = .ok (.bipush 60, 2) := by decide +kernel
theorem dX9_copy_170 : decode cX9_copy 170 = .ok (.iload_n 3, 1) := by decide +kernel
theorem dX9_copy_171 : decode cX9_copy 171 = .ok (.imul, 1) := by decide +kernel
theorem dX9_copy_172 : decode cX9_copy 172 = .ok (.iload 4, 2) := by decide +kernel
theorem dX9_copy_174 : decode cX9_copy 174 = .ok (.iadd, 1) := by decide +kernel
theorem dX9_copy_175 : decode cX9_copy 175 = .ok (.iload 6, 2) := by decide +kernel
theorem dX9_copy_177 : decode cX9_copy 177 = .ok (.iadd, 1) := by decide +kernel
theorem dX9_copy_178 : decode cX9_copy 178 = .ok (.aload_n 0, 1) := by decide +kernel
theorem dX9_copy_179 : decode cX9_copy 179 = .ok (.getfield 98, 3) := by decide +kernel
theorem dX9_copy_182 : decode cX9_copy 182 = .ok (.iload 6, 2) := by decide +kernel
theorem dX9_copy_184 : decode cX9_copy 184 = .ok (.iaload, 1) := by decide +kernel
theorem dX9_copy_185 : decode cX9_copy 185 = .ok (.iastore, 1) := by decide +kernel
theorem dX9_copy_186 : decode cX9_copy 186 = .ok (.iinc 6 1, 3) := by decide +kernel
theorem dX9_copy_189 : decode cX9_copy 189 = .ok (.goto (-32), 3) := by decide +kernel
theorem dX9_copy_192 : decode cX9_copy 192 = .ok (.iconst 1, 1) := by decide +kernel
theorem dX9_copy_193 : decode cX9_copy 193 = .ok (.ireturn, 1) := by decide +kernel
theorem dX9_write_0 : decode cX9_write 0 = .ok (.iload_n 1, 1) := by decide +kernel
theorem dX9_write_1 : decode cX9_write 1 = .ok (.invokestatic 167, 3) := by decide +kernel
theorem dX9_write_4 : decode cX9_write 4 = .ok (.ifCond .eq 10, 3) := by decide +kernel
theorem dX9_write_7 : decode cX9_write 7 = .ok (.iload_n 2, 1) := by decide +kernel
theorem dX9_write_8 : decode cX9_write 8 = .ok (.invokestatic 176, 3) := by decide +kernel
theorem dX9_write_11 : decode cX9_write 11 = .ok (.ifCond .ne 6, 3) := by decide +kernel
theorem dX9_write_14 : decode cX9_write 14 = .ok (.bipush (-2), 2) := by decide +kernel
theorem dX9_write_16 : decode cX9_write 16 = .ok (.ireturn, 1) := by decide +kernel
theorem dX9_write_17 : decode cX9_write 17 = .ok (.aload_n 0, 1) := by decide +kernel
theorem dX9_write_18 : decode cX9_write 18 = .ok (.getfield 86, 3) := by decide +kernel
theorem dX9_write_21 : decode cX9_write 21 = .ok (.iload_n 2, 1) := by decide +kernel
theorem dX9_write_22 : decode cX9_write 22 = .ok (.baload, 1) := by decide +kernel
theorem dX9_write_23 : decode cX9_write 23 = .ok (.ifCond .ne 9, 3) := by decide +kernel
theorem dX9_write_26 : decode cX9_write 26 = .ok (.aload_n 0, 1) := by decide +kernel
theorem dX9_write_27 : decode cX9_write 27 = .ok (.iconst 1, 1) := by decide +kernel
theorem dX9_write_28 : decode cX9_write 28 = .ok (.invokevirtual 179, 3) := by decide +kernel
theorem dX9_write_31 : decode cX9_write 31 = .ok (.ireturn, 1) := by decide +kernel
theorem dX9_write_32 : decode cX9_write 32 = .ok (.aload_n 0, 1) := by decide +kernel
theorem dX9_write_33 : decode cX9_write 33 = .ok (.invokevirtual 262, 3) := by decide +kernel
theorem dX9_write_36 : decode cX9_write 36 = .ok (.iconst 0, 1) := by decide +kernel
theorem dX9_write_37 : decode cX9_write 37 = .ok (.istore_n 3, 1) := by decide +kernel
theorem dX9_write_38 : decode cX9_write 38 = .ok (.iload_n 3, 1) := by decide +kernel
theorem dX9_write_39 : decode cX9_write 39 = .ok (.aload_n 0, 1) := by decide +kernel
theorem dX9_write_40 : decode cX9_write 40 = .ok (.getfield 92, 3) := by decide +kernel
theorem dX9_write_43 : decode cX9_write 43 = .ok (.iload_n 2, 1) := by decide +kernel
theorem dX9_write_44 : decode cX9_write 44 = .ok (.iaload, 1) := by decide +kernel
theorem dX9_write_45 : decode cX9_write 45 = .ok (.if_icmp .ge 34, 3) := by decide +kernel
theorem dX9_write_48 : decode cX9_write 48 = .ok (.iload_n 3, 1) := by decide +kernel
theorem dX9_write_49 : decode cX9_write 49 = .ok (.aload_n 0, 1) := by decide +kernel
theorem dX9_write_50 : decode cX9_write 50 = .ok (.getfield 121, 3) := by decide +kernel
theorem dX9_write_53 : decode cX9_write 53 = .ok (.if_icmp .ge 26, 3) := by decide +kernel
theorem dX9_write_56 : decode cX9_write 56 = .ok (.aload_n 0, 1) := by decide +kernel
theorem dX9_write_57 : decode cX9_write 57 = .ok (.iload_n 2, 1) := by decide +kernel
theorem dX9_write_58 : decode cX9_write 58 = .ok (.iload_n 3, 1) := by decide +kernel
theorem dX9_write_59 : decode cX9_write 59 = .ok (.aload_n 0, 1) := by decide +kernel
theorem dX9_write_60 : decode cX9_write 60 = .ok (.getfield 67, 3) := by decide +kernel
theorem dX9_write_63 : decode cX9_write 63 = .ok (.bipush 8, 2) := by decide +kernel
theorem dX9_write_65 : decode cX9_write 65 = .ok (.iload_n 1, 1) := by decide +kernel
theorem dX9_write_66 : decode cX9_write 66 = .ok (.imul, 1) := by decide +kernel
theorem dX9_write_67 : decode cX9_write 67 = .ok (.iload_n 3, 1) := by decide +kernel
theorem dX9_write_68 : decode cX9_write 68 = .ok (.iadd, 1) := by decide +kernel
theorem dX9_write_69 : decode cX9_write 69 = .ok (.iaload, 1) := by decide +kernel
theorem dX9_write_70 : decode cX9_write 70 = .ok (.invokevirtual 346, 3) := by decide +kernel
theorem dX9_write_73 : decode cX9_write 73 = .ok (.iinc 3 1, 3) := by decide +kernel
theorem dX9_write_76 : decode cX9_write 76 = .ok (.goto (-38), 3) := by decide +kernel
theorem dX9_write_79 : decode cX9_write 79 = .ok (.iload_n 3, 1) := by decide +kernel
theorem dX9_write_80 : decode cX9_write 80 = .ok (.ireturn, 1) := by decide +kernel
theorem dX9_sumOf_0 : decode cX9_sumOf 0 = .ok (.aload_n 0, 1) := by decide +kernel
theorem dX9_sumOf_1 : decode cX9_sumOf 1 = .ok (.invokevirtual 262, 3) := by decide +kernel
theorem dX9_sumOf_4 : decode cX9_sumOf 4 = .ok (.iconst 0, 1) := by decide +kernel
theorem dX9_sumOf_5 : decode cX9_sumOf 5 = .ok (.istore_n 2, 1) := by decide +kernel
theorem dX9_sumOf_6 : decode cX9_sumOf 6 = .ok (.iconst 0, 1) := by decide +kernel
theorem dX9_sumOf_7 : decode cX9_sumOf 7 = .ok (.istore_n 3, 1) := by decide +kernel
theorem dX9_sumOf_8 : decode cX9_sumOf 8 = .ok (.iload_n 3, 1) := by decide +kernel
theorem dX9_sumOf_9 : decode cX9_sumOf 9 = .ok (.bipush 40, 2) := by decide +kernel
theorem dX9_sumOf_11 : decode cX9_sumOf 11 = .ok (.if_icmp .ge 27, 3) := by decide +kernel
theorem dX9_sumOf_14 : decode cX9_sumOf 14 = .ok (.iload_n 2, 1) := by decide +kernel
theorem dX9_sumOf_15 : decode cX9_sumOf 15 = .ok (.aload_n 0, 1) := by decide +kernel
theorem dX9_sumOf_16 : decode cX9_sumOf 16 = .ok (.getfield 16, 3) := by decide +kernel
theorem dX9_sumOf_19 : decode cX9_sumOf 19 = .ok (.iload_n 3, 1) := by decide +kernel
theorem dX9_sumOf_20 : decode cX9_sumOf 20 = .ok (.iaload, 1) := by decide +kernel
theorem dX9_sumOf_21 : decode cX9_sumOf 21 = .ok (.iconst (-1), 1) := by decide +kernel
theorem dX9_sumOf_22 : decode cX9_sumOf 22 = .ok (.if_icmp .ne 7, 3) := by decide +kernel
theorem dX9_sumOf_25 : decode cX9_sumOf 25 = .ok (.iconst 0, 1) := by decide +kernel
theorem dX9_sumOf_26 : decode cX9_sumOf 26 = .ok (.goto 4, 3) := by decide +kernel
theorem dX9_sumOf_29 : decode cX9_sumOf 29 = .ok (.iconst 1, 1) := by decide +kernel
theorem dX9_sumOf_30 : decode cX9_sumOf 30 = .ok (.iadd, 1) := by decide +kernel
theorem dX9_sumOf_31 : decode cX9_sumOf 31 = .ok (.istore_n 2, 1) := by decide +kernel
theorem dX9_sumOf_32 : decode cX9_sumOf 32 = .ok (.iinc 3 1, 3) := by decide +kernel
theorem dX9_sumOf_35 : decode cX9_sumOf 35 = .ok (.goto (-27), 3) := by decide +kernel
theorem dX9_sumOf_38 : decode cX9_sumOf 38 = .ok (.iload_n 1, 1) := by decide +kernel
theorem dX9_sumOf_39 : decode cX9_sumOf 39 = .ok (.ifCond .ne 7, 3) := by decide +kernel
theorem dX9_sumOf_42 : decode cX9_sumOf 42 = .ok (.iload_n 2, 1) := by decide +kernel
theorem dX9_sumOf_43 : decode cX9_sumOf 43 = .ok (.goto 19, 3) := by decide +kernel
theorem dX9_sumOf_46 : decode cX9_sumOf 46 = .ok (.iload_n 1, 1) := by decide +kernel
theorem dX9_sumOf_47 : decode cX9_sumOf 47 = .ok (.iconst 1, 1) := by decide +kernel
theorem dX9_sumOf_48 : decode cX9_sumOf 48 = .ok (.if_icmp .ne 10, 3) := by decide +kernel
theorem dX9_sumOf_51 : decode cX9_sumOf 51 = .ok (.aload_n 0, 1) := by decide +kernel
theorem dX9_sumOf_52 : decode cX9_sumOf 52 = .ok (.getfield 135, 3) := by decide +kernel
theorem dX9_sumOf_55 : decode cX9_sumOf 55 = .ok (.goto 7, 3) := by decide +kernel
theorem dX9_sumOf_58 : decode cX9_sumOf 58 = .ok (.aload_n 0, 1) := by decide +kernel
theorem dX9_sumOf_59 : decode cX9_sumOf 59 = .ok (.getfield 247, 3) := by decide +kernel
theorem dX9_sumOf_62 : decode cX9_sumOf 62 = .ok (.ireturn, 1) := by decide +kernel
theorem dX9_count_0 : decode cX9_count 0 = .ok (.iload_n 1, 1) := by decide +kernel
theorem dX9_count_1 : decode cX9_count 1 = .ok (.tableswitch 86 0 8 #[51, 51, 57, 57, 66, 71, 51, 76, 81], 51) := by decide +kernel
theorem dX9_count_52 : decode cX9_count 52 = .ok (.aload_n 0, 1) := by decide +kernel
theorem dX9_count_53 : decode cX9_count 53 = .ok (.iload_n 1, 1) := by decide +kernel
theorem dX9_count_54 : decode cX9_count 54 = .ok (.invokevirtual 351, 3) := by decide +kernel
theorem dX9_count_57 : decode cX9_count 57 = .ok (.ireturn, 1) := by decide +kernel
theorem dX9_count_58 : decode cX9_count 58 = .ok (.aload_n 0, 1) := by decide +kernel
theorem dX9_count_59 : decode cX9_count 59 = .ok (.getfield 7, 3) := by decide +kernel
theorem dX9_count_62 : decode cX9_count 62 = .ok (.iload_n 1, 1) := by decide +kernel
theorem dX9_count_63 : decode cX9_count 63 = .ok (.iconst 2, 1) := by decide +kernel
theorem dX9_count_64 : decode cX9_count 64 = .ok (.isub, 1) := by decide +kernel
theorem dX9_count_65 : decode cX9_count 65 = .ok (.iaload, 1) := by decide +kernel
theorem dX9_count_66 : decode cX9_count 66 = .ok (.ireturn, 1) := by decide +kernel
theorem dX9_count_67 : decode cX9_count 67 = .ok (.aload_n 0, 1) := by decide +kernel
theorem dX9_count_68 : decode cX9_count 68 = .ok (.getfield 170, 3) := by decide +kernel
theorem dX9_count_71 : decode cX9_count 71 = .ok (.ireturn, 1) := by decide +kernel
theorem dX9_count_72 : decode cX9_count 72 = .ok (.aload_n 0, 1) := by decide +kernel
theorem dX9_count_73 : decode cX9_count 73 = .ok (.getfield 173, 3) := by decide +kernel
theorem dX9_count_76 : decode cX9_count 76 = .ok (.ireturn, 1) := by decide +kernel
theorem dX9_count_77 : decode cX9_count 77 = .ok (.aload_n 0, 1) := by decide +kernel
theorem dX9_count_78 : decode cX9_count 78 = .ok (.getfield 305, 3) := by decide +kernel
theorem dX9_count_81 : decode cX9_count 81 = .ok (.ireturn, 1) := by decide +kernel
theorem dX9_count_82 : decode cX9_count 82 = .ok (.aload_n 0, 1) := by decide +kernel
theorem dX9_count_83 : decode cX9_count 83 = .ok (.getfield 340, 3) := by decide +kernel
theorem dX9_count_86 : decode cX9_count 86 = .ok (.ireturn, 1) := by decide +kernel
theorem dX9_count_87 : decode cX9_count 87 = .ok (.bipush (-2), 2) := by decide +kernel
theorem dX9_count_89 : decode cX9_count 89 = .ok (.ireturn, 1) := by decide +kernel
theorem dX9_placeDigest_0 : decode cX9_placeDigest 0 = .ok (.ldc2_w 354, 3) := by decide +kernel
theorem dX9_placeDigest_3 : decode cX9_placeDigest 3 = .ok (.lload_n 1, 1) := by decide +kernel
theorem dX9_placeDigest_4 : decode cX9_placeDigest 4 = .ok (.lmul, 1) := by decide +kernel
theorem dX9_placeDigest_5 : decode cX9_placeDigest 5 = .ok (.aload_n 0, 1) := by decide +kernel
theorem dX9_placeDigest_6 : decode cX9_placeDigest 6 = .ok (.iload_n 3, 1) := by decide +kernel
theorem dX9_placeDigest_7 : decode cX9_placeDigest 7 = .ok (.invokevirtual 158, 3) := by decide +kernel
theorem dX9_placeDigest_10 : decode cX9_placeDigest 10 = .ok (.i2l, 1) := by decide +kernel
theorem dX9_placeDigest_11 : decode cX9_placeDigest 11 = .ok (.ladd, 1) := by decide +kernel
theorem dX9_placeDigest_12 : decode cX9_placeDigest 12 = .ok (.lstore 4, 2) := by decide +kernel
theorem dX9_placeDigest_14 : decode cX9_placeDigest 14 = .ok (.ldc2_w 354, 3) := by decide +kernel
theorem dX9_placeDigest_17 : decode cX9_placeDigest 17 = .ok (.lload 4, 2) := by decide +kernel
theorem dX9_placeDigest_19 : decode cX9_placeDigest 19 = .ok (.lmul, 1) := by decide +kernel
theorem dX9_placeDigest_20 : decode cX9_placeDigest 20 = .ok (.aload_n 0, 1) := by decide +kernel
theorem dX9_placeDigest_21 : decode cX9_placeDigest 21 = .ok (.iconst 0, 1) := by decide +kernel
theorem dX9_placeDigest_22 : decode cX9_placeDigest 22 = .ok (.iload_n 3, 1) := by decide +kernel
theorem dX9_placeDigest_23 : decode cX9_placeDigest 23 = .ok (.iconst 0, 1) := by decide +kernel
theorem dX9_placeDigest_24 : decode cX9_placeDigest 24 = .ok (.invokevirtual 265, 3) := by decide +kernel
theorem dX9_placeDigest_27 : decode cX9_placeDigest 27 = .ok (.i2l, 1) := by decide +kernel
theorem dX9_placeDigest_28 : decode cX9_placeDigest 28 = .ok (.ladd, 1) := by decide +kernel
theorem dX9_placeDigest_29 : decode cX9_placeDigest 29 = .ok (.lstore 4, 2) := by decide +kernel
theorem dX9_placeDigest_31 : decode cX9_placeDigest 31 = .ok (.ldc2_w 354, 3) := by decide +kernel
theorem dX9_placeDigest_34 : decode cX9_placeDigest 34 = .ok (.lload 4, 2) := by decide +kernel
theorem dX9_placeDigest_36 : decode cX9_placeDigest 36 = .ok (.lmul, 1) := by decide +kernel
theorem dX9_placeDigest_37 : decode cX9_placeDigest 37 = .ok (.aload_n 0, 1) := by decide +kernel
theorem dX9_placeDigest_38 : decode cX9_placeDigest 38 = .ok (.iconst 0, 1) := by decide +kernel
theorem dX9_placeDigest_39 : decode cX9_placeDigest 39 = .ok (.iload_n 3, 1) := by decide +kernel
theorem dX9_placeDigest_40 : decode cX9_placeDigest 40 = .ok (.iconst 1, 1) := by decide +kernel
theorem dX9_placeDigest_41 : decode cX9_placeDigest 41 = .ok (.invokevirtual 265, 3) := by decide +kernel
theorem dX9_placeDigest_44 : decode cX9_placeDigest 44 = .ok (.i2l, 1) := by decide +kernel
theorem dX9_placeDigest_45 : decode cX9_placeDigest 45 = .ok (.ladd, 1) := by decide +kernel
theorem dX9_placeDigest_46 : decode cX9_placeDigest 46 = .ok (.lstore 4, 2) := by decide +kernel
theorem dX9_placeDigest_48 : decode cX9_placeDigest 48 = .ok (.ldc2_w 354, 3) := by decide +kernel
theorem dX9_placeDigest_51 : decode cX9_placeDigest 51 = .ok (.lload 4, 2) := by decide +kernel
theorem dX9_placeDigest_53 : decode cX9_placeDigest 53 = .ok (.lmul, 1) := by decide +kernel
theorem dX9_placeDigest_54 : decode cX9_placeDigest 54 = .ok (.aload_n 0, 1) := by decide +kernel
theorem dX9_placeDigest_55 : decode cX9_placeDigest 55 = .ok (.bipush 19, 2) := by decide +kernel
theorem dX9_placeDigest_57 : decode cX9_placeDigest 57 = .ok (.iload_n 3, 1) := by decide +kernel
theorem dX9_placeDigest_58 : decode cX9_placeDigest 58 = .ok (.iconst 0, 1) := by decide +kernel
theorem dX9_placeDigest_59 : decode cX9_placeDigest 59 = .ok (.invokevirtual 265, 3) := by decide +kernel
theorem dX9_placeDigest_62 : decode cX9_placeDigest 62 = .ok (.i2l, 1) := by decide +kernel
theorem dX9_placeDigest_63 : decode cX9_placeDigest 63 = .ok (.ladd, 1) := by decide +kernel
theorem dX9_placeDigest_64 : decode cX9_placeDigest 64 = .ok (.lstore 4, 2) := by decide +kernel
theorem dX9_placeDigest_66 : decode cX9_placeDigest 66 = .ok (.ldc2_w 354, 3) := by decide +kernel
theorem dX9_placeDigest_69 : decode cX9_placeDigest 69 = .ok (.lload 4, 2) := by decide +kernel
theorem dX9_placeDigest_71 : decode cX9_placeDigest 71 = .ok (.lmul, 1) := by decide +kernel
theorem dX9_placeDigest_72 : decode cX9_placeDigest 72 = .ok (.aload_n 0, 1) := by decide +kernel
theorem dX9_placeDigest_73 : decode cX9_placeDigest 73 = .ok (.bipush 19, 2) := by decide +kernel
theorem dX9_placeDigest_75 : decode cX9_placeDigest 75 = .ok (.iload_n 3, 1) := by decide +kernel
theorem dX9_placeDigest_76 : decode cX9_placeDigest 76 = .ok (.iconst 1, 1) := by decide +kernel
theorem dX9_placeDigest_77 : decode cX9_placeDigest 77 = .ok (.invokevirtual 265, 3) := by decide +kernel
theorem dX9_placeDigest_80 : decode cX9_placeDigest 80 = .ok (.i2l, 1) := by decide +kernel
theorem dX9_placeDigest_81 : decode cX9_placeDigest 81 = .ok (.ladd, 1) := by decide +kernel
theorem dX9_placeDigest_82 : decode cX9_placeDigest 82 = .ok (.lstore 4, 2) := by decide +kernel
theorem dX9_placeDigest_84 : decode cX9_placeDigest 84 = .ok (.ldc2_w 354, 3) := by decide +kernel
theorem dX9_placeDigest_87 : decode cX9_placeDigest 87 = .ok (.lload 4, 2) := by decide +kernel
theorem dX9_placeDigest_89 : decode cX9_placeDigest 89 = .ok (.lmul, 1) := by decide +kernel
theorem dX9_placeDigest_90 : decode cX9_placeDigest 90 = .ok (.aload_n 0, 1) := by decide +kernel
theorem dX9_placeDigest_91 : decode cX9_placeDigest 91 = .ok (.iload_n 3, 1) := by decide +kernel
theorem dX9_placeDigest_92 : decode cX9_placeDigest 92 = .ok (.invokevirtual 302, 3) := by decide +kernel
theorem dX9_placeDigest_95 : decode cX9_placeDigest 95 = .ok (.i2l, 1) := by decide +kernel
theorem dX9_placeDigest_96 : decode cX9_placeDigest 96 = .ok (.ladd, 1) := by decide +kernel
theorem dX9_placeDigest_97 : decode cX9_placeDigest 97 = .ok (.lreturn, 1) := by decide +kernel
theorem dX9_handDigest_0 : decode cX9_handDigest 0 = .ok (.ldc2_w 354, 3) := by decide +kernel
theorem dX9_handDigest_3 : decode cX9_handDigest 3 = .ok (.lload_n 1, 1) := by decide +kernel
theorem dX9_handDigest_4 : decode cX9_handDigest 4 = .ok (.lmul, 1) := by decide +kernel
theorem dX9_handDigest_5 : decode cX9_handDigest 5 = .ok (.aload_n 0, 1) := by decide +kernel
theorem dX9_handDigest_6 : decode cX9_handDigest 6 = .ok (.iload_n 3, 1) := by decide +kernel
theorem dX9_handDigest_7 : decode cX9_handDigest 7 = .ok (.iconst 0, 1) := by decide +kernel
theorem dX9_handDigest_8 : decode cX9_handDigest 8 = .ok (.invokevirtual 164, 3) := by decide +kernel
theorem dX9_handDigest_11 : decode cX9_handDigest 11 = .ok (.i2l, 1) := by decide +kernel
theorem dX9_handDigest_12 : decode cX9_handDigest 12 = .ok (.ladd, 1) := by decide +kernel
theorem dX9_handDigest_13 : decode cX9_handDigest 13 = .ok (.lstore 4, 2) := by decide +kernel
theorem dX9_handDigest_15 : decode cX9_handDigest 15 = .ok (.ldc2_w 354, 3) := by decide +kernel
theorem dX9_handDigest_18 : decode cX9_handDigest 18 = .ok (.lload 4, 2) := by decide +kernel
theorem dX9_handDigest_20 : decode cX9_handDigest 20 = .ok (.lmul, 1) := by decide +kernel
theorem dX9_handDigest_21 : decode cX9_handDigest 21 = .ok (.aload_n 0, 1) := by decide +kernel
theorem dX9_handDigest_22 : decode cX9_handDigest 22 = .ok (.iload_n 3, 1) := by decide +kernel
theorem dX9_handDigest_23 : decode cX9_handDigest 23 = .ok (.iconst 1, 1) := by decide +kernel
theorem dX9_handDigest_24 : decode cX9_handDigest 24 = .ok (.invokevirtual 164, 3) := by decide +kernel
theorem dX9_handDigest_27 : decode cX9_handDigest 27 = .ok (.i2l, 1) := by decide +kernel
theorem dX9_handDigest_28 : decode cX9_handDigest 28 = .ok (.ladd, 1) := by decide +kernel
theorem dX9_handDigest_29 : decode cX9_handDigest 29 = .ok (.lstore 4, 2) := by decide +kernel
theorem dX9_handDigest_31 : decode cX9_handDigest 31 = .ok (.ldc2_w 354, 3) := by decide +kernel
theorem dX9_handDigest_34 : decode cX9_handDigest 34 = .ok (.lload 4, 2) := by decide +kernel
theorem dX9_handDigest_36 : decode cX9_handDigest 36 = .ok (.lmul, 1) := by decide +kernel
theorem dX9_handDigest_37 : decode cX9_handDigest 37 = .ok (.aload_n 0, 1) := by decide +kernel
theorem dX9_handDigest_38 : decode cX9_handDigest 38 = .ok (.iload_n 3, 1) := by decide +kernel
theorem dX9_handDigest_39 : decode cX9_handDigest 39 = .ok (.invokevirtual 284, 3) := by decide +kernel
theorem dX9_handDigest_42 : decode cX9_handDigest 42 = .ok (.i2l, 1) := by decide +kernel
theorem dX9_handDigest_43 : decode cX9_handDigest 43 = .ok (.ladd, 1) := by decide +kernel
theorem dX9_handDigest_44 : decode cX9_handDigest 44 = .ok (.lstore 4, 2) := by decide +kernel
theorem dX9_handDigest_46 : decode cX9_handDigest 46 = .ok (.ldc2_w 354, 3) := by decide +kernel
theorem dX9_handDigest_49 : decode cX9_handDigest 49 = .ok (.lload 4, 2) := by decide +kernel
theorem dX9_handDigest_51 : decode cX9_handDigest 51 = .ok (.lmul, 1) := by decide +kernel
theorem dX9_handDigest_52 : decode cX9_handDigest 52 = .ok (.aload_n 0, 1) := by decide +kernel
theorem dX9_handDigest_53 : decode cX9_handDigest 53 = .ok (.iload_n 3, 1) := by decide +kernel
theorem dX9_handDigest_54 : decode cX9_handDigest 54 = .ok (.invokevirtual 293, 3) := by decide +kernel
theorem dX9_handDigest_57 : decode cX9_handDigest 57 = .ok (.i2l, 1) := by decide +kernel
theorem dX9_handDigest_58 : decode cX9_handDigest 58 = .ok (.ladd, 1) := by decide +kernel
theorem dX9_handDigest_59 : decode cX9_handDigest 59 = .ok (.lstore 4, 2) := by decide +kernel
theorem dX9_handDigest_61 : decode cX9_handDigest 61 = .ok (.ldc2_w 354, 3) := by decide +kernel
theorem dX9_handDigest_64 : decode cX9_handDigest 64 = .ok (.lload 4, 2) := by decide +kernel
theorem dX9_handDigest_66 : decode cX9_handDigest 66 = .ok (.lmul, 1) := by decide +kernel
theorem dX9_handDigest_67 : decode cX9_handDigest 67 = .ok (.aload_n 0, 1) := by decide +kernel
theorem dX9_handDigest_68 : decode cX9_handDigest 68 = .ok (.iload_n 3, 1) := by decide +kernel
theorem dX9_handDigest_69 : decode cX9_handDigest 69 = .ok (.iconst 0, 1) := by decide +kernel
theorem dX9_handDigest_70 : decode cX9_handDigest 70 = .ok (.invokevirtual 296, 3) := by decide +kernel
theorem dX9_handDigest_73 : decode cX9_handDigest 73 = .ok (.i2l, 1) := by decide +kernel
theorem dX9_handDigest_74 : decode cX9_handDigest 74 = .ok (.ladd, 1) := by decide +kernel
theorem dX9_handDigest_75 : decode cX9_handDigest 75 = .ok (.lstore 4, 2) := by decide +kernel
theorem dX9_handDigest_77 : decode cX9_handDigest 77 = .ok (.ldc2_w 354, 3) := by decide +kernel
theorem dX9_handDigest_80 : decode cX9_handDigest 80 = .ok (.lload 4, 2) := by decide +kernel
theorem dX9_handDigest_82 : decode cX9_handDigest 82 = .ok (.lmul, 1) := by decide +kernel
theorem dX9_handDigest_83 : decode cX9_handDigest 83 = .ok (.aload_n 0, 1) := by decide +kernel
theorem dX9_handDigest_84 : decode cX9_handDigest 84 = .ok (.iload_n 3, 1) := by decide +kernel
theorem dX9_handDigest_85 : decode cX9_handDigest 85 = .ok (.iconst 1, 1) := by decide +kernel
theorem dX9_handDigest_86 : decode cX9_handDigest 86 = .ok (.invokevirtual 296, 3) := by decide +kernel
theorem dX9_handDigest_89 : decode cX9_handDigest 89 = .ok (.i2l, 1) := by decide +kernel
theorem dX9_handDigest_90 : decode cX9_handDigest 90 = .ok (.ladd, 1) := by decide +kernel
theorem dX9_handDigest_91 : decode cX9_handDigest 91 = .ok (.lstore 4, 2) := by decide +kernel
theorem dX9_handDigest_93 : decode cX9_handDigest 93 = .ok (.ldc2_w 354, 3) := by decide +kernel
theorem dX9_handDigest_96 : decode cX9_handDigest 96 = .ok (.lload 4, 2) := by decide +kernel
theorem dX9_handDigest_98 : decode cX9_handDigest 98 = .ok (.lmul, 1) := by decide +kernel
theorem dX9_handDigest_99 : decode cX9_handDigest 99 = .ok (.aload_n 0, 1) := by decide +kernel
theorem dX9_handDigest_100 : decode cX9_handDigest 100 = .ok (.iload_n 3, 1) := by decide +kernel
theorem dX9_handDigest_101 : decode cX9_handDigest 101 = .ok (.invokevirtual 315, 3) := by decide +kernel
theorem dX9_handDigest_104 : decode cX9_handDigest 104 = .ok (.i2l, 1) := by decide +kernel
theorem dX9_handDigest_105 : decode cX9_handDigest 105 = .ok (.ladd, 1) := by decide +kernel
theorem dX9_handDigest_106 : decode cX9_handDigest 106 = .ok (.lstore 4, 2) := by decide +kernel
theorem dX9_handDigest_108 : decode cX9_handDigest 108 = .ok (.ldc2_w 354, 3) := by decide +kernel
theorem dX9_handDigest_111 : decode cX9_handDigest 111 = .ok (.lload 4, 2) := by decide +kernel
theorem dX9_handDigest_113 : decode cX9_handDigest 113 = .ok (.lmul, 1) := by decide +kernel
theorem dX9_handDigest_114 : decode cX9_handDigest 114 = .ok (.aload_n 0, 1) := by decide +kernel
theorem dX9_handDigest_115 : decode cX9_handDigest 115 = .ok (.iload_n 3, 1) := by decide +kernel
theorem dX9_handDigest_116 : decode cX9_handDigest 116 = .ok (.invokevirtual 318, 3) := by decide +kernel
theorem dX9_handDigest_119 : decode cX9_handDigest 119 = .ok (.i2l, 1) := by decide +kernel
theorem dX9_handDigest_120 : decode cX9_handDigest 120 = .ok (.ladd, 1) := by decide +kernel
theorem dX9_handDigest_121 : decode cX9_handDigest 121 = .ok (.lstore 4, 2) := by decide +kernel
theorem dX9_handDigest_123 : decode cX9_handDigest 123 = .ok (.ldc2_w 354, 3) := by decide +kernel
theorem dX9_handDigest_126 : decode cX9_handDigest 126 = .ok (.lload 4, 2) := by decide +kernel
theorem dX9_handDigest_128 : decode cX9_handDigest 128 = .ok (.lmul, 1) := by decide +kernel
theorem dX9_handDigest_129 : decode cX9_handDigest 129 = .ok (.aload_n 0, 1) := by decide +kernel
theorem dX9_handDigest_130 : decode cX9_handDigest 130 = .ok (.iload_n 3, 1) := by decide +kernel
theorem dX9_handDigest_131 : decode cX9_handDigest 131 = .ok (.invokevirtual 321, 3) := by decide +kernel
theorem dX9_handDigest_134 : decode cX9_handDigest 134 = .ok (.i2l, 1) := by decide +kernel
theorem dX9_handDigest_135 : decode cX9_handDigest 135 = .ok (.ladd, 1) := by decide +kernel
theorem dX9_handDigest_136 : decode cX9_handDigest 136 = .ok (.lreturn, 1) := by decide +kernel
theorem dX9_digest_0 : decode cX9_digest 0 = .ok (.ldc2_w 356, 3) := by decide +kernel
theorem dX9_digest_3 : decode cX9_digest 3 = .ok (.lstore_n 1, 1) := by decide +kernel
theorem dX9_digest_4 : decode cX9_digest 4 = .ok (.iconst 0, 1) := by decide +kernel
theorem dX9_digest_5 : decode cX9_digest 5 = .ok (.istore_n 3, 1) := by decide +kernel
theorem dX9_digest_6 : decode cX9_digest 6 = .ok (.iload_n 3, 1) := by decide +kernel
theorem dX9_digest_7 : decode cX9_digest 7 = .ok (.bipush 8, 2) := by decide +kernel
theorem dX9_digest_9 : decode cX9_digest 9 = .ok (.if_icmp .ge 22, 3) := by decide +kernel
theorem dX9_digest_12 : decode cX9_digest 12 = .ok (.ldc2_w 354, 3) := by decide +kernel
theorem dX9_digest_15 : decode cX9_digest 15 = .ok (.lload_n 1, 1) := by decide +kernel
theorem dX9_digest_16 : decode cX9_digest 16 = .ok (.lmul, 1) := by decide +kernel
theorem dX9_digest_17 : decode cX9_digest 17 = .ok (.aload_n 0, 1) := by decide +kernel
theorem dX9_digest_18 : decode cX9_digest 18 = .ok (.iload_n 3, 1) := by decide +kernel
theorem dX9_digest_19 : decode cX9_digest 19 = .ok (.invokevirtual 358, 3) := by decide +kernel
theorem dX9_digest_22 : decode cX9_digest 22 = .ok (.i2l, 1) := by decide +kernel
theorem dX9_digest_23 : decode cX9_digest 23 = .ok (.ladd, 1) := by decide +kernel
theorem dX9_digest_24 : decode cX9_digest 24 = .ok (.lstore_n 1, 1) := by decide +kernel
theorem dX9_digest_25 : decode cX9_digest 25 = .ok (.iinc 3 1, 3) := by decide +kernel
theorem dX9_digest_28 : decode cX9_digest 28 = .ok (.goto (-22), 3) := by decide +kernel
theorem dX9_digest_31 : decode cX9_digest 31 = .ok (.ldc2_w 354, 3) := by decide +kernel
theorem dX9_digest_34 : decode cX9_digest 34 = .ok (.lload_n 1, 1) := by decide +kernel
theorem dX9_digest_35 : decode cX9_digest 35 = .ok (.lmul, 1) := by decide +kernel
theorem dX9_digest_36 : decode cX9_digest 36 = .ok (.aload_n 0, 1) := by decide +kernel
theorem dX9_digest_37 : decode cX9_digest 37 = .ok (.iconst 0, 1) := by decide +kernel
theorem dX9_digest_38 : decode cX9_digest 38 = .ok (.invokevirtual 148, 3) := by decide +kernel
theorem dX9_digest_41 : decode cX9_digest 41 = .ok (.i2l, 1) := by decide +kernel
theorem dX9_digest_42 : decode cX9_digest 42 = .ok (.ladd, 1) := by decide +kernel
theorem dX9_digest_43 : decode cX9_digest 43 = .ok (.lstore_n 1, 1) := by decide +kernel
theorem dX9_digest_44 : decode cX9_digest 44 = .ok (.ldc2_w 354, 3) := by decide +kernel
theorem dX9_digest_47 : decode cX9_digest 47 = .ok (.lload_n 1, 1) := by decide +kernel
theorem dX9_digest_48 : decode cX9_digest 48 = .ok (.lmul, 1) := by decide +kernel
theorem dX9_digest_49 : decode cX9_digest 49 = .ok (.aload_n 0, 1) := by decide +kernel
theorem dX9_digest_50 : decode cX9_digest 50 = .ok (.iconst 1, 1) := by decide +kernel
theorem dX9_digest_51 : decode cX9_digest 51 = .ok (.invokevirtual 148, 3) := by decide +kernel
theorem dX9_digest_54 : decode cX9_digest 54 = .ok (.i2l, 1) := by decide +kernel
theorem dX9_digest_55 : decode cX9_digest 55 = .ok (.ladd, 1) := by decide +kernel
theorem dX9_digest_56 : decode cX9_digest 56 = .ok (.lstore_n 1, 1) := by decide +kernel
theorem dX9_digest_57 : decode cX9_digest 57 = .ok (.iconst 0, 1) := by decide +kernel
theorem dX9_digest_58 : decode cX9_digest 58 = .ok (.istore_n 3, 1) := by decide +kernel
theorem dX9_digest_59 : decode cX9_digest 59 = .ok (.iload_n 3, 1) := by decide +kernel
theorem dX9_digest_60 : decode cX9_digest 60 = .ok (.bipush 40, 2) := by decide +kernel
theorem dX9_digest_62 : decode cX9_digest 62 = .ok (.if_icmp .ge 16, 3) := by decide +kernel
theorem dX9_digest_65 : decode cX9_digest 65 = .ok (.aload_n 0, 1) := by decide +kernel
theorem dX9_digest_66 : decode cX9_digest 66 = .ok (.lload_n 1, 1) := by decide +kernel
theorem dX9_digest_67 : decode cX9_digest 67 = .ok (.iload_n 3, 1) := by decide +kernel
theorem dX9_digest_68 : decode cX9_digest 68 = .ok (.invokevirtual 361, 3) := by decide +kernel
theorem dX9_digest_71 : decode cX9_digest 71 = .ok (.lstore_n 1, 1) := by decide +kernel
theorem dX9_digest_72 : decode cX9_digest 72 = .ok (.iinc 3 1, 3) := by decide +kernel
theorem dX9_digest_75 : decode cX9_digest 75 = .ok (.goto (-16), 3) := by decide +kernel
theorem dX9_digest_78 : decode cX9_digest 78 = .ok (.iconst 0, 1) := by decide +kernel
theorem dX9_digest_79 : decode cX9_digest 79 = .ok (.istore_n 3, 1) := by decide +kernel
theorem dX9_digest_80 : decode cX9_digest 80 = .ok (.iload_n 3, 1) := by decide +kernel
theorem dX9_digest_81 : decode cX9_digest 81 = .ok (.aload_n 0, 1) := by decide +kernel
theorem dX9_digest_82 : decode cX9_digest 82 = .ok (.getfield 121, 3) := by decide +kernel
theorem dX9_digest_85 : decode cX9_digest 85 = .ok (.if_icmp .ge 73, 3) := by decide +kernel
theorem dX9_digest_88 : decode cX9_digest 88 = .ok (.ldc2_w 354, 3) := by decide +kernel
theorem dX9_digest_91 : decode cX9_digest 91 = .ok (.lload_n 1, 1) := by decide +kernel
theorem dX9_digest_92 : decode cX9_digest 92 = .ok (.lmul, 1) := by decide +kernel
theorem dX9_digest_93 : decode cX9_digest 93 = .ok (.aload_n 0, 1) := by decide +kernel
theorem dX9_digest_94 : decode cX9_digest 94 = .ok (.bipush 9, 2) := by decide +kernel
theorem dX9_digest_96 : decode cX9_digest 96 = .ok (.iload_n 3, 1) := by decide +kernel
theorem dX9_digest_97 : decode cX9_digest 97 = .ok (.iconst 0, 1) := by decide +kernel
theorem dX9_digest_98 : decode cX9_digest 98 = .ok (.invokevirtual 272, 3) := by decide +kernel
theorem dX9_digest_101 : decode cX9_digest 101 = .ok (.i2l, 1) := by decide +kernel
theorem dX9_digest_102 : decode cX9_digest 102 = .ok (.ladd, 1) := by decide +kernel
theorem dX9_digest_103 : decode cX9_digest 103 = .ok (.lstore_n 1, 1) := by decide +kernel
theorem dX9_digest_104 : decode cX9_digest 104 = .ok (.ldc2_w 354, 3) := by decide +kernel
theorem dX9_digest_107 : decode cX9_digest 107 = .ok (.lload_n 1, 1) := by decide +kernel
theorem dX9_digest_108 : decode cX9_digest 108 = .ok (.lmul, 1) := by decide +kernel
theorem dX9_digest_109 : decode cX9_digest 109 = .ok (.aload_n 0, 1) := by decide +kernel
theorem dX9_digest_110 : decode cX9_digest 110 = .ok (.bipush 9, 2) := by decide +kernel
theorem dX9_digest_112 : decode cX9_digest 112 = .ok (.iload_n 3, 1) := by decide +kernel
theorem dX9_digest_113 : decode cX9_digest 113 = .ok (.iconst 1, 1) := by decide +kernel
theorem dX9_digest_114 : decode cX9_digest 114 = .ok (.invokevirtual 272, 3) := by decide +kernel
theorem dX9_digest_117 : decode cX9_digest 117 = .ok (.i2l, 1) := by decide +kernel
theorem dX9_digest_118 : decode cX9_digest 118 = .ok (.ladd, 1) := by decide +kernel
theorem dX9_digest_119 : decode cX9_digest 119 = .ok (.lstore_n 1, 1) := by decide +kernel
theorem dX9_digest_120 : decode cX9_digest 120 = .ok (.ldc2_w 354, 3) := by decide +kernel
theorem dX9_digest_123 : decode cX9_digest 123 = .ok (.lload_n 1, 1) := by decide +kernel
theorem dX9_digest_124 : decode cX9_digest 124 = .ok (.lmul, 1) := by decide +kernel
theorem dX9_digest_125 : decode cX9_digest 125 = .ok (.aload_n 0, 1) := by decide +kernel
theorem dX9_digest_126 : decode cX9_digest 126 = .ok (.bipush 19, 2) := by decide +kernel
theorem dX9_digest_128 : decode cX9_digest 128 = .ok (.iload_n 3, 1) := by decide +kernel
theorem dX9_digest_129 : decode cX9_digest 129 = .ok (.iconst 0, 1) := by decide +kernel
theorem dX9_digest_130 : decode cX9_digest 130 = .ok (.invokevirtual 272, 3) := by decide +kernel
theorem dX9_digest_133 : decode cX9_digest 133 = .ok (.i2l, 1) := by decide +kernel
theorem dX9_digest_134 : decode cX9_digest 134 = .ok (.ladd, 1) := by decide +kernel
theorem dX9_digest_135 : decode cX9_digest 135 = .ok (.lstore_n 1, 1) := by decide +kernel
theorem dX9_digest_136 : decode cX9_digest 136 = .ok (.ldc2_w 354, 3) := by decide +kernel
theorem dX9_digest_139 : decode cX9_digest 139 = .ok (.lload_n 1, 1) := by decide +kernel
theorem dX9_digest_140 : decode cX9_digest 140 = .ok (.lmul, 1) := by decide +kernel
theorem dX9_digest_141 : decode cX9_digest 141 = .ok (.aload_n 0, 1) := by decide +kernel
theorem dX9_digest_142 : decode cX9_digest 142 = .ok (.bipush 19, 2) := by decide +kernel
theorem dX9_digest_144 : decode cX9_digest 144 = .ok (.iload_n 3, 1) := by decide +kernel
theorem dX9_digest_145 : decode cX9_digest 145 = .ok (.iconst 1, 1) := by decide +kernel
theorem dX9_digest_146 : decode cX9_digest 146 = .ok (.invokevirtual 272, 3) := by decide +kernel
theorem dX9_digest_149 : decode cX9_digest 149 = .ok (.i2l, 1) := by decide +kernel
theorem dX9_digest_150 : decode cX9_digest 150 = .ok (.ladd, 1) := by decide +kernel
theorem dX9_digest_151 : decode cX9_digest 151 = .ok (.lstore_n 1, 1) := by decide +kernel
theorem dX9_digest_152 : decode cX9_digest 152 = .ok (.iinc 3 1, 3) := by decide +kernel
theorem dX9_digest_155 : decode cX9_digest 155 = .ok (.goto (-75), 3) := by decide +kernel
theorem dX9_digest_158 : decode cX9_digest 158 = .ok (.iconst 0, 1) := by decide +kernel
theorem dX9_digest_159 : decode cX9_digest 159 = .ok (.istore_n 3, 1) := by decide +kernel
theorem dX9_digest_160 : decode cX9_digest 160 = .ok (.iload_n 3, 1) := by decide +kernel
theorem dX9_digest_161 : decode cX9_digest 161 = .ok (.bipush 20, 2) := by decide +kernel
theorem dX9_digest_163 : decode cX9_digest 163 = .ok (.if_icmp .ge 22, 3) := by decide +kernel
theorem dX9_digest_166 : decode cX9_digest 166 = .ok (.ldc2_w 354, 3) := by decide +kernel
theorem dX9_digest_169 : decode cX9_digest 169 = .ok (.lload_n 1, 1) := by decide +kernel
theorem dX9_digest_170 : decode cX9_digest 170 = .ok (.lmul, 1) := by decide +kernel
theorem dX9_digest_171 : decode cX9_digest 171 = .ok (.aload_n 0, 1) := by decide +kernel
theorem dX9_digest_172 : decode cX9_digest 172 = .ok (.iload_n 3, 1) := by decide +kernel
theorem dX9_digest_173 : decode cX9_digest 173 = .ok (.invokevirtual 275, 3) := by decide +kernel
theorem dX9_digest_176 : decode cX9_digest 176 = .ok (.i2l, 1) := by decide +kernel
theorem dX9_digest_177 : decode cX9_digest 177 = .ok (.ladd, 1) := by decide +kernel
theorem dX9_digest_178 : decode cX9_digest 178 = .ok (.lstore_n 1, 1) := by decide +kernel
theorem dX9_digest_179 : decode cX9_digest 179 = .ok (.iinc 3 1, 3) := by decide +kernel
theorem dX9_digest_182 : decode cX9_digest 182 = .ok (.goto (-22), 3) := by decide +kernel
theorem dX9_digest_185 : decode cX9_digest 185 = .ok (.iconst 0, 1) := by decide +kernel
theorem dX9_digest_186 : decode cX9_digest 186 = .ok (.istore_n 3, 1) := by decide +kernel
theorem dX9_digest_187 : decode cX9_digest 187 = .ok (.iload_n 3, 1) := by decide +kernel
theorem dX9_digest_188 : decode cX9_digest 188 = .ok (.aload_n 0, 1) := by decide +kernel
theorem dX9_digest_189 : decode cX9_digest 189 = .ok (.getfield 135, 3) := by decide +kernel
theorem dX9_digest_192 : decode cX9_digest 192 = .ok (.if_icmp .ge 16, 3) := by decide +kernel
theorem dX9_digest_195 : decode cX9_digest 195 = .ok (.aload_n 0, 1) := by decide +kernel
theorem dX9_digest_196 : decode cX9_digest 196 = .ok (.lload_n 1, 1) := by decide +kernel
theorem dX9_digest_197 : decode cX9_digest 197 = .ok (.iload_n 3, 1) := by decide +kernel
theorem dX9_digest_198 : decode cX9_digest 198 = .ok (.invokevirtual 365, 3) := by decide +kernel
theorem dX9_digest_201 : decode cX9_digest 201 = .ok (.lstore_n 1, 1) := by decide +kernel
theorem dX9_digest_202 : decode cX9_digest 202 = .ok (.iinc 3 1, 3) := by decide +kernel
theorem dX9_digest_205 : decode cX9_digest 205 = .ok (.goto (-18), 3) := by decide +kernel
theorem dX9_digest_208 : decode cX9_digest 208 = .ok (.ldc2_w 354, 3) := by decide +kernel
theorem dX9_digest_211 : decode cX9_digest 211 = .ok (.lload_n 1, 1) := by decide +kernel
theorem dX9_digest_212 : decode cX9_digest 212 = .ok (.lmul, 1) := by decide +kernel
theorem dX9_digest_213 : decode cX9_digest 213 = .ok (.aload_n 0, 1) := by decide +kernel
theorem dX9_digest_214 : decode cX9_digest 214 = .ok (.iconst 0, 1) := by decide +kernel
theorem dX9_digest_215 : decode cX9_digest 215 = .ok (.invokevirtual 278, 3) := by decide +kernel
theorem dX9_digest_218 : decode cX9_digest 218 = .ok (.i2l, 1) := by decide +kernel
theorem dX9_digest_219 : decode cX9_digest 219 = .ok (.ladd, 1) := by decide +kernel
theorem dX9_digest_220 : decode cX9_digest 220 = .ok (.lstore_n 1, 1) := by decide +kernel
theorem dX9_digest_221 : decode cX9_digest 221 = .ok (.ldc2_w 354, 3) := by decide +kernel
theorem dX9_digest_224 : decode cX9_digest 224 = .ok (.lload_n 1, 1) := by decide +kernel
theorem dX9_digest_225 : decode cX9_digest 225 = .ok (.lmul, 1) := by decide +kernel
theorem dX9_digest_226 : decode cX9_digest 226 = .ok (.aload_n 0, 1) := by decide +kernel
theorem dX9_digest_227 : decode cX9_digest 227 = .ok (.iconst 1, 1) := by decide +kernel
theorem dX9_digest_228 : decode cX9_digest 228 = .ok (.invokevirtual 278, 3) := by decide +kernel
theorem dX9_digest_231 : decode cX9_digest 231 = .ok (.i2l, 1) := by decide +kernel
theorem dX9_digest_232 : decode cX9_digest 232 = .ok (.ladd, 1) := by decide +kernel
theorem dX9_digest_233 : decode cX9_digest 233 = .ok (.lstore_n 1, 1) := by decide +kernel
theorem dX9_digest_234 : decode cX9_digest 234 = .ok (.ldc2_w 354, 3) := by decide +kernel
theorem dX9_digest_237 : decode cX9_digest 237 = .ok (.lload_n 1, 1) := by decide +kernel
theorem dX9_digest_238 : decode cX9_digest 238 = .ok (.lmul, 1) := by decide +kernel
theorem dX9_digest_239 : decode cX9_digest 239 = .ok (.aload_n 0, 1) := by decide +kernel
theorem dX9_digest_240 : decode cX9_digest 240 = .ok (.invokevirtual 287, 3) := by decide +kernel
theorem dX9_digest_243 : decode cX9_digest 243 = .ok (.i2l, 1) := by decide +kernel
theorem dX9_digest_244 : decode cX9_digest 244 = .ok (.ladd, 1) := by decide +kernel
theorem dX9_digest_245 : decode cX9_digest 245 = .ok (.lstore_n 1, 1) := by decide +kernel
theorem dX9_digest_246 : decode cX9_digest 246 = .ok (.iconst 0, 1) := by decide +kernel
theorem dX9_digest_247 : decode cX9_digest 247 = .ok (.istore_n 3, 1) := by decide +kernel
theorem dX9_digest_248 : decode cX9_digest 248 = .ok (.iload_n 3, 1) := by decide +kernel
theorem dX9_digest_249 : decode cX9_digest 249 = .ok (.iconst 3, 1) := by decide +kernel
theorem dX9_digest_250 : decode cX9_digest 250 = .ok (.if_icmp .ge 23, 3) := by decide +kernel
theorem dX9_digest_253 : decode cX9_digest 253 = .ok (.ldc2_w 354, 3) := by decide +kernel
theorem dX9_digest_256 : decode cX9_digest 256 = .ok (.lload_n 1, 1) := by decide +kernel
theorem dX9_digest_257 : decode cX9_digest 257 = .ok (.lmul, 1) := by decide +kernel
theorem dX9_digest_258 : decode cX9_digest 258 = .ok (.aload_n 0, 1) := by decide +kernel
theorem dX9_digest_259 : decode cX9_digest 259 = .ok (.iconst 5, 1) := by decide +kernel
theorem dX9_digest_260 : decode cX9_digest 260 = .ok (.iload_n 3, 1) := by decide +kernel
theorem dX9_digest_261 : decode cX9_digest 261 = .ok (.invokevirtual 290, 3) := by decide +kernel
theorem dX9_digest_264 : decode cX9_digest 264 = .ok (.i2l, 1) := by decide +kernel
theorem dX9_digest_265 : decode cX9_digest 265 = .ok (.ladd, 1) := by decide +kernel
theorem dX9_digest_266 : decode cX9_digest 266 = .ok (.lstore_n 1, 1) := by decide +kernel
theorem dX9_digest_267 : decode cX9_digest 267 = .ok (.iinc 3 1, 3) := by decide +kernel
theorem dX9_digest_270 : decode cX9_digest 270 = .ok (.goto (-22), 3) := by decide +kernel
theorem dX9_digest_273 : decode cX9_digest 273 = .ok (.ldc2_w 354, 3) := by decide +kernel
theorem dX9_digest_276 : decode cX9_digest 276 = .ok (.lload_n 1, 1) := by decide +kernel
theorem dX9_digest_277 : decode cX9_digest 277 = .ok (.lmul, 1) := by decide +kernel
theorem dX9_digest_278 : decode cX9_digest 278 = .ok (.aload_n 0, 1) := by decide +kernel
theorem dX9_digest_279 : decode cX9_digest 279 = .ok (.invokevirtual 312, 3) := by decide +kernel
theorem dX9_digest_282 : decode cX9_digest 282 = .ok (.i2l, 1) := by decide +kernel
theorem dX9_digest_283 : decode cX9_digest 283 = .ok (.ladd, 1) := by decide +kernel
theorem dX9_digest_284 : decode cX9_digest 284 = .ok (.lstore_n 1, 1) := by decide +kernel
theorem dX9_digest_285 : decode cX9_digest 285 = .ok (.ldc2_w 354, 3) := by decide +kernel
theorem dX9_digest_288 : decode cX9_digest 288 = .ok (.lload_n 1, 1) := by decide +kernel
theorem dX9_digest_289 : decode cX9_digest 289 = .ok (.lmul, 1) := by decide +kernel
theorem dX9_digest_290 : decode cX9_digest 290 = .ok (.aload_n 0, 1) := by decide +kernel
theorem dX9_digest_291 : decode cX9_digest 291 = .ok (.iconst 5, 1) := by decide +kernel
theorem dX9_digest_292 : decode cX9_digest 292 = .ok (.iconst 0, 1) := by decide +kernel
theorem dX9_digest_293 : decode cX9_digest 293 = .ok (.invokevirtual 328, 3) := by decide +kernel
theorem dX9_digest_296 : decode cX9_digest 296 = .ok (.ladd, 1) := by decide +kernel
theorem dX9_digest_297 : decode cX9_digest 297 = .ok (.lstore_n 1, 1) := by decide +kernel
theorem dX9_digest_298 : decode cX9_digest 298 = .ok (.ldc2_w 354, 3) := by decide +kernel
theorem dX9_digest_301 : decode cX9_digest 301 = .ok (.lload_n 1, 1) := by decide +kernel
theorem dX9_digest_302 : decode cX9_digest 302 = .ok (.lmul, 1) := by decide +kernel
theorem dX9_digest_303 : decode cX9_digest 303 = .ok (.aload_n 0, 1) := by decide +kernel
theorem dX9_digest_304 : decode cX9_digest 304 = .ok (.iconst 5, 1) := by decide +kernel
theorem dX9_digest_305 : decode cX9_digest 305 = .ok (.iconst 1, 1) := by decide +kernel
theorem dX9_digest_306 : decode cX9_digest 306 = .ok (.invokevirtual 328, 3) := by decide +kernel
theorem dX9_digest_309 : decode cX9_digest 309 = .ok (.ladd, 1) := by decide +kernel
theorem dX9_digest_310 : decode cX9_digest 310 = .ok (.lstore_n 1, 1) := by decide +kernel
theorem dX9_digest_311 : decode cX9_digest 311 = .ok (.ldc2_w 354, 3) := by decide +kernel
theorem dX9_digest_314 : decode cX9_digest 314 = .ok (.lload_n 1, 1) := by decide +kernel
theorem dX9_digest_315 : decode cX9_digest 315 = .ok (.lmul, 1) := by decide +kernel
theorem dX9_digest_316 : decode cX9_digest 316 = .ok (.aload_n 0, 1) := by decide +kernel
theorem dX9_digest_317 : decode cX9_digest 317 = .ok (.bipush 7, 2) := by decide +kernel
theorem dX9_digest_319 : decode cX9_digest 319 = .ok (.iconst 5, 1) := by decide +kernel
theorem dX9_digest_320 : decode cX9_digest 320 = .ok (.iconst 0, 1) := by decide +kernel
theorem dX9_digest_321 : decode cX9_digest 321 = .ok (.invokevirtual 337, 3) := by decide +kernel
theorem dX9_digest_324 : decode cX9_digest 324 = .ok (.i2l, 1) := by decide +kernel
theorem dX9_digest_325 : decode cX9_digest 325 = .ok (.ladd, 1) := by decide +kernel
theorem dX9_digest_326 : decode cX9_digest 326 = .ok (.lstore_n 1, 1) := by decide +kernel
theorem dX9_digest_327 : decode cX9_digest 327 = .ok (.ldc2_w 354, 3) := by decide +kernel
theorem dX9_digest_330 : decode cX9_digest 330 = .ok (.lload_n 1, 1) := by decide +kernel
theorem dX9_digest_331 : decode cX9_digest 331 = .ok (.lmul, 1) := by decide +kernel
theorem dX9_digest_332 : decode cX9_digest 332 = .ok (.aload_n 0, 1) := by decide +kernel
theorem dX9_digest_333 : decode cX9_digest 333 = .ok (.bipush 7, 2) := by decide +kernel
theorem dX9_digest_335 : decode cX9_digest 335 = .ok (.iconst 5, 1) := by decide +kernel
theorem dX9_digest_336 : decode cX9_digest 336 = .ok (.iconst 1, 1) := by decide +kernel
theorem dX9_digest_337 : decode cX9_digest 337 = .ok (.invokevirtual 337, 3) := by decide +kernel
theorem dX9_digest_340 : decode cX9_digest 340 = .ok (.i2l, 1) := by decide +kernel
theorem dX9_digest_341 : decode cX9_digest 341 = .ok (.ladd, 1) := by decide +kernel
theorem dX9_digest_342 : decode cX9_digest 342 = .ok (.lreturn, 1) := by decide +kernel
theorem dJ13_bitCount_95d88_0 : decode cJ13_bitCount_95d88 0 = .ok (.lload_n 0, 1) := by decide +kernel
theorem dJ13_bitCount_95d88_1 : decode cJ13_bitCount_95d88 1 = .ok (.lload_n 0, 1) := by decide +kernel
theorem dJ13_bitCount_95d88_2 : decode cJ13_bitCount_95d88 2 = .ok (.iconst 1, 1) := by decide +kernel
theorem dJ13_bitCount_95d88_3 : decode cJ13_bitCount_95d88 3 = .ok (.lushr, 1) := by decide +kernel
theorem dJ13_bitCount_95d88_4 : decode cJ13_bitCount_95d88 4 = .ok (.ldc2_w 314, 3) := by decide +kernel
theorem dJ13_bitCount_95d88_7 : decode cJ13_bitCount_95d88 7 = .ok (.land, 1) := by decide +kernel
theorem dJ13_bitCount_95d88_8 : decode cJ13_bitCount_95d88 8 = .ok (.lsub, 1) := by decide +kernel
theorem dJ13_bitCount_95d88_9 : decode cJ13_bitCount_95d88 9 = .ok (.lstore_n 0, 1) := by decide +kernel
theorem dJ13_bitCount_95d88_10 : decode cJ13_bitCount_95d88 10 = .ok (.lload_n 0, 1) := by decide +kernel
theorem dJ13_bitCount_95d88_11 : decode cJ13_bitCount_95d88 11 = .ok (.ldc2_w 316, 3) := by decide +kernel
theorem dJ13_bitCount_95d88_14 : decode cJ13_bitCount_95d88 14 = .ok (.land, 1) := by decide +kernel
theorem dJ13_bitCount_95d88_15 : decode cJ13_bitCount_95d88 15 = .ok (.lload_n 0, 1) := by decide +kernel
theorem dJ13_bitCount_95d88_16 : decode cJ13_bitCount_95d88 16 = .ok (.iconst 2, 1) := by decide +kernel
theorem dJ13_bitCount_95d88_17 : decode cJ13_bitCount_95d88 17 = .ok (.lushr, 1) := by decide +kernel
theorem dJ13_bitCount_95d88_18 : decode cJ13_bitCount_95d88 18 = .ok (.ldc2_w 316, 3) := by decide +kernel
theorem dJ13_bitCount_95d88_21 : decode cJ13_bitCount_95d88 21 = .ok (.land, 1) := by decide +kernel
theorem dJ13_bitCount_95d88_22 : decode cJ13_bitCount_95d88 22 = .ok (.ladd, 1) := by decide +kernel
theorem dJ13_bitCount_95d88_23 : decode cJ13_bitCount_95d88 23 = .ok (.lstore_n 0, 1) := by decide +kernel
theorem dJ13_bitCount_95d88_24 : decode cJ13_bitCount_95d88 24 = .ok (.lload_n 0, 1) := by decide +kernel
theorem dJ13_bitCount_95d88_25 : decode cJ13_bitCount_95d88 25 = .ok (.lload_n 0, 1) := by decide +kernel
theorem dJ13_bitCount_95d88_26 : decode cJ13_bitCount_95d88 26 = .ok (.iconst 4, 1) := by decide +kernel
theorem dJ13_bitCount_95d88_27 : decode cJ13_bitCount_95d88 27 = .ok (.lushr, 1) := by decide +kernel
theorem dJ13_bitCount_95d88_28 : decode cJ13_bitCount_95d88 28 = .ok (.ladd, 1) := by decide +kernel
theorem dJ13_bitCount_95d88_29 : decode cJ13_bitCount_95d88 29 = .ok (.ldc2_w 318, 3) := by decide +kernel
theorem dJ13_bitCount_95d88_32 : decode cJ13_bitCount_95d88 32 = .ok (.land, 1) := by decide +kernel
theorem dJ13_bitCount_95d88_33 : decode cJ13_bitCount_95d88 33 = .ok (.lstore_n 0, 1) := by decide +kernel
theorem dJ13_bitCount_95d88_34 : decode cJ13_bitCount_95d88 34 = .ok (.lload_n 0, 1) := by decide +kernel
theorem dJ13_bitCount_95d88_35 : decode cJ13_bitCount_95d88 35 = .ok (.lload_n 0, 1) := by decide +kernel
theorem dJ13_bitCount_95d88_36 : decode cJ13_bitCount_95d88 36 = .ok (.bipush 8, 2) := by decide +kernel
theorem dJ13_bitCount_95d88_38 : decode cJ13_bitCount_95d88 38 = .ok (.lushr, 1) := by decide +kernel
theorem dJ13_bitCount_95d88_39 : decode cJ13_bitCount_95d88 39 = .ok (.ladd, 1) := by decide +kernel
theorem dJ13_bitCount_95d88_40 : decode cJ13_bitCount_95d88 40 = .ok (.lstore_n 0, 1) := by decide +kernel
theorem dJ13_bitCount_95d88_41 : decode cJ13_bitCount_95d88 41 = .ok (.lload_n 0, 1) := by decide +kernel
theorem dJ13_bitCount_95d88_42 : decode cJ13_bitCount_95d88 42 = .ok (.lload_n 0, 1) := by decide +kernel
theorem dJ13_bitCount_95d88_43 : decode cJ13_bitCount_95d88 43 = .ok (.bipush 16, 2) := by decide +kernel
theorem dJ13_bitCount_95d88_45 : decode cJ13_bitCount_95d88 45 = .ok (.lushr, 1) := by decide +kernel
theorem dJ13_bitCount_95d88_46 : decode cJ13_bitCount_95d88 46 = .ok (.ladd, 1) := by decide +kernel
theorem dJ13_bitCount_95d88_47 : decode cJ13_bitCount_95d88 47 = .ok (.lstore_n 0, 1) := by decide +kernel
theorem dJ13_bitCount_95d88_48 : decode cJ13_bitCount_95d88 48 = .ok (.lload_n 0, 1) := by decide +kernel
theorem dJ13_bitCount_95d88_49 : decode cJ13_bitCount_95d88 49 = .ok (.lload_n 0, 1) := by decide +kernel
theorem dJ13_bitCount_95d88_50 : decode cJ13_bitCount_95d88 50 = .ok (.bipush 32, 2) := by decide +kernel
theorem dJ13_bitCount_95d88_52 : decode cJ13_bitCount_95d88 52 = .ok (.lushr, 1) := by decide +kernel
theorem dJ13_bitCount_95d88_53 : decode cJ13_bitCount_95d88 53 = .ok (.ladd, 1) := by decide +kernel
theorem dJ13_bitCount_95d88_54 : decode cJ13_bitCount_95d88 54 = .ok (.lstore_n 0, 1) := by decide +kernel
theorem dJ13_bitCount_95d88_55 : decode cJ13_bitCount_95d88 55 = .ok (.lload_n 0, 1) := by decide +kernel
theorem dJ13_bitCount_95d88_56 : decode cJ13_bitCount_95d88 56 = .ok (.l2i, 1) := by decide +kernel
theorem dJ13_bitCount_95d88_57 : decode cJ13_bitCount_95d88 57 = .ok (.bipush 127, 2) := by decide +kernel
theorem dJ13_bitCount_95d88_59 : decode cJ13_bitCount_95d88 59 = .ok (.iand, 1) := by decide +kernel
theorem dJ13_bitCount_95d88_60 : decode cJ13_bitCount_95d88 60 = .ok (.ireturn, 1) := by decide +kernel
theorem dJ9_max_7cf53_0 : decode cJ9_max_7cf53 0 = .ok (.iload_n 0, 1) := by decide +kernel
theorem dJ9_max_7cf53_1 : decode cJ9_max_7cf53 1 = .ok (.iload_n 1, 1) := by decide +kernel
theorem dJ9_max_7cf53_2 : decode cJ9_max_7cf53 2 = .ok (.if_icmp .lt 7, 3) := by decide +kernel
theorem dJ9_max_7cf53_5 : decode cJ9_max_7cf53 5 = .ok (.iload_n 0, 1) := by decide +kernel
theorem dJ9_max_7cf53_6 : decode cJ9_max_7cf53 6 = .ok (.goto 4, 3) := by decide +kernel
theorem dJ9_max_7cf53_9 : decode cJ9_max_7cf53 9 = .ok (.iload_n 1, 1) := by decide +kernel
theorem dJ9_max_7cf53_10 : decode cJ9_max_7cf53 10 = .ok (.ireturn, 1) := by decide +kernel
theorem dJ9_min_7cf53_0 : decode cJ9_min_7cf53 0 = .ok (.iload_n 0, 1) := by decide +kernel
theorem dJ9_min_7cf53_1 : decode cJ9_min_7cf53 1 = .ok (.iload_n 1, 1) := by decide +kernel
theorem dJ9_min_7cf53_2 : decode cJ9_min_7cf53 2 = .ok (.if_icmp .gt 7, 3) := by decide +kernel
theorem dJ9_min_7cf53_5 : decode cJ9_min_7cf53 5 = .ok (.iload_n 0, 1) := by decide +kernel
theorem dJ9_min_7cf53_6 : decode cJ9_min_7cf53 6 = .ok (.goto 4, 3) := by decide +kernel
theorem dJ9_min_7cf53_9 : decode cJ9_min_7cf53 9 = .ok (.iload_n 1, 1) := by decide +kernel
theorem dJ9_min_7cf53_10 : decode cJ9_min_7cf53 10 = .ok (.ireturn, 1) := by decide +kernel
theorem dJ0_length_8abf5_0 : decode cJ0_length_8abf5 0 = .ok (.aload_n 0, 1) := by decide +kernel
theorem dJ0_length_8abf5_1 : decode cJ0_length_8abf5 1 = .ok (.getfield 9, 3) := by decide +kernel
theorem dJ0_length_8abf5_4 : decode cJ0_length_8abf5 4 = .ok (.arraylength, 1) := by decide +kernel
theorem dJ0_length_8abf5_5 : decode cJ0_length_8abf5 5 = .ok (.aload_n 0, 1) := by decide +kernel
theorem dJ0_length_8abf5_6 : decode cJ0_length_8abf5 6 = .ok (.invokevirtual 335, 3) := by decide +kernel
theorem dJ0_length_8abf5_9 : decode cJ0_length_8abf5 9 = .ok (.ishr, 1) := by decide +kernel
theorem dJ0_length_8abf5_10 : decode cJ0_length_8abf5 10 = .ok (.ireturn, 1) := by decide +kernel
theorem dJ0_indexOf_0f7a4_0 : decode cJ0_indexOf_0f7a4 0 = .ok (.aload_n 0, 1) := by decide +kernel
theorem dJ0_indexOf_0f7a4_1 : decode cJ0_indexOf_0f7a4 1 = .ok (.iload_n 1, 1) := by decide +kernel
theorem dJ0_indexOf_0f7a4_2 : decode cJ0_indexOf_0f7a4 2 = .ok (.iconst 0, 1) := by decide +kernel
theorem dJ0_indexOf_0f7a4_3 : decode cJ0_indexOf_0f7a4 3 = .ok (.invokevirtual 633, 3) := by decide +kernel
theorem dJ0_indexOf_0f7a4_6 : decode cJ0_indexOf_0f7a4 6 = .ok (.ireturn, 1) := by decide +kernel
theorem dJ0_indexOf_7cf53_0 : decode cJ0_indexOf_7cf53 0 = .ok (.aload_n 0, 1) := by decide +kernel
theorem dJ0_indexOf_7cf53_1 : decode cJ0_indexOf_7cf53 1 = .ok (.invokevirtual 492, 3) := by decide +kernel
theorem dJ0_indexOf_7cf53_4 : decode cJ0_indexOf_7cf53 4 = .ok (.ifCond .eq 19, 3) := by decide +kernel
theorem dJ0_indexOf_7cf53_7 : decode cJ0_indexOf_7cf53 7 = .ok (.aload_n 0, 1) := by decide +kernel
theorem dJ0_indexOf_7cf53_8 : decode cJ0_indexOf_7cf53 8 = .ok (.getfield 9, 3) := by decide +kernel
theorem dJ0_indexOf_7cf53_11 : decode cJ0_indexOf_7cf53 11 = .ok (.iload_n 1, 1) := by decide +kernel
theorem dJ0_indexOf_7cf53_12 : decode cJ0_indexOf_7cf53 12 = .ok (.iload_n 2, 1) := by decide +kernel
theorem dJ0_indexOf_7cf53_13 : decode cJ0_indexOf_7cf53 13 = .ok (.aload_n 0, 1) := by decide +kernel
theorem dJ0_indexOf_7cf53_14 : decode cJ0_indexOf_7cf53 14 = .ok (.invokevirtual 505, 3) := by decide +kernel
theorem dJ0_indexOf_7cf53_17 : decode cJ0_indexOf_7cf53 17 = .ok (.invokestatic 637, 3) := by decide +kernel
theorem dJ0_indexOf_7cf53_20 : decode cJ0_indexOf_7cf53 20 = .ok (.goto 16, 3) := by decide +kernel
theorem dJ0_indexOf_7cf53_23 : decode cJ0_indexOf_7cf53 23 = .ok (.aload_n 0, 1) := by decide +kernel
theorem dJ0_indexOf_7cf53_24 : decode cJ0_indexOf_7cf53 24 = .ok (.getfield 9, 3) := by decide +kernel
theorem dJ0_indexOf_7cf53_27 : decode cJ0_indexOf_7cf53 27 = .ok (.iload_n 1, 1) := by decide +kernel
theorem dJ0_indexOf_7cf53_28 : decode cJ0_indexOf_7cf53 28 = .ok (.iload_n 2, 1) := by decide +kernel
theorem dJ0_indexOf_7cf53_29 : decode cJ0_indexOf_7cf53 29 = .ok (.aload_n 0, 1) := by decide +kernel
theorem dJ0_indexOf_7cf53_30 : decode cJ0_indexOf_7cf53 30 = .ok (.invokevirtual 505, 3) := by decide +kernel
theorem dJ0_indexOf_7cf53_33 : decode cJ0_indexOf_7cf53 33 = .ok (.invokestatic 640, 3) := by decide +kernel
end
section
theorem dJ0_indexOf_7cf53_36 : decode cJ0_indexOf_7cf53 36 = .ok (.ireturn, 1) := by decide +kernel
theorem dJ0_coder_7d493_0 : decode cJ0_coder_7d493 0 = .ok (.getstatic 38, 3) := by decide +kernel
theorem dJ0_coder_7d493_3 : decode cJ0_coder_7d493 3 = .ok (.ifCond .eq 10, 3) := by decide +kernel
theorem dJ0_coder_7d493_6 : decode cJ0_coder_7d493 6 = .ok (.aload_n 0, 1) := by decide +kernel
theorem dJ0_coder_7d493_7 : decode cJ0_coder_7d493 7 = .ok (.getfield 15, 3) := by decide +kernel
theorem dJ0_coder_7d493_10 : decode cJ0_coder_7d493 10 = .ok (.goto 4, 3) := by decide +kernel
theorem dJ0_coder_7d493_13 : decode cJ0_coder_7d493 13 = .ok (.iconst 1, 1) := by decide +kernel
theorem dJ0_coder_7d493_14 : decode cJ0_coder_7d493 14 = .ok (.ireturn, 1) := by decide +kernel
theorem dJ0_isLatin1_aae02_0 : decode cJ0_isLatin1_aae02 0 = .ok (.getstatic 38, 3) := by decide +kernel
theorem dJ0_isLatin1_aae02_3 : decode cJ0_isLatin1_aae02 3 = .ok (.ifCond .eq 14, 3) := by decide +kernel
theorem dJ0_isLatin1_aae02_6 : decode cJ0_isLatin1_aae02 6 = .ok (.aload_n 0, 1) := by decide +kernel
theorem dJ0_isLatin1_aae02_7 : decode cJ0_isLatin1_aae02 7 = .ok (.getfield 15, 3) := by decide +kernel
theorem dJ0_isLatin1_aae02_10 : decode cJ0_isLatin1_aae02 10 = .ok (.ifCond .ne 7, 3) := by decide +kernel
theorem dJ0_isLatin1_aae02_13 : decode cJ0_isLatin1_aae02 13 = .ok (.iconst 1, 1) := by decide +kernel
theorem dJ0_isLatin1_aae02_14 : decode cJ0_isLatin1_aae02 14 = .ok (.goto 4, 3) := by decide +kernel
theorem dJ0_isLatin1_aae02_17 : decode cJ0_isLatin1_aae02 17 = .ok (.iconst 0, 1) := by decide +kernel
theorem dJ0_isLatin1_aae02_18 : decode cJ0_isLatin1_aae02 18 = .ok (.ireturn, 1) := by decide +kernel
theorem dJ1_canEncode_9a6ad_0 : decode cJ1_canEncode_9a6ad 0 = .ok (.iload_n 0, 1) := by decide +kernel
theorem dJ1_canEncode_9a6ad_1 : decode cJ1_canEncode_9a6ad 1 = .ok (.ifCond .lt 14, 3) := by decide +kernel
theorem dJ1_canEncode_9a6ad_4 : decode cJ1_canEncode_9a6ad 4 = .ok (.iload_n 0, 1) := by decide +kernel
theorem dJ1_canEncode_9a6ad_5 : decode cJ1_canEncode_9a6ad 5 = .ok (.sipush 255, 3) := by decide +kernel
theorem dJ1_canEncode_9a6ad_8 : decode cJ1_canEncode_9a6ad 8 = .ok (.if_icmp .gt 7, 3) := by decide +kernel
theorem dJ1_canEncode_9a6ad_11 : decode cJ1_canEncode_9a6ad 11 = .ok (.iconst 1, 1) := by decide +kernel
theorem dJ1_canEncode_9a6ad_12 : decode cJ1_canEncode_9a6ad 12 = .ok (.goto 4, 3) := by decide +kernel
theorem dJ1_canEncode_9a6ad_15 : decode cJ1_canEncode_9a6ad 15 = .ok (.iconst 0, 1) := by decide +kernel
theorem dJ1_canEncode_9a6ad_16 : decode cJ1_canEncode_9a6ad 16 = .ok (.ireturn, 1) := by decide +kernel
theorem dJ1_indexOf_4cfef_0 : decode cJ1_indexOf_4cfef 0 = .ok (.iload_n 1, 1) := by decide +kernel
theorem dJ1_indexOf_4cfef_1 : decode cJ1_indexOf_4cfef 1 = .ok (.invokestatic 88, 3) := by decide +kernel
theorem dJ1_indexOf_4cfef_4 : decode cJ1_indexOf_4cfef 4 = .ok (.ifCond .ne 5, 3) := by decide +kernel
theorem dJ1_indexOf_4cfef_7 : decode cJ1_indexOf_4cfef 7 = .ok (.iconst (-1), 1) := by decide +kernel
theorem dJ1_indexOf_4cfef_8 : decode cJ1_indexOf_4cfef 8 = .ok (.ireturn, 1) := by decide +kernel
theorem dJ1_indexOf_4cfef_9 : decode cJ1_indexOf_4cfef 9 = .ok (.iload_n 2, 1) := by decide +kernel
theorem dJ1_indexOf_4cfef_10 : decode cJ1_indexOf_4cfef 10 = .ok (.iconst 0, 1) := by decide +kernel
theorem dJ1_indexOf_4cfef_11 : decode cJ1_indexOf_4cfef 11 = .ok (.invokestatic 92, 3) := by decide +kernel
theorem dJ1_indexOf_4cfef_14 : decode cJ1_indexOf_4cfef 14 = .ok (.istore_n 2, 1) := by decide +kernel
theorem dJ1_indexOf_4cfef_15 : decode cJ1_indexOf_4cfef 15 = .ok (.iload_n 3, 1) := by decide +kernel
theorem dJ1_indexOf_4cfef_16 : decode cJ1_indexOf_4cfef 16 = .ok (.aload_n 0, 1) := by decide +kernel
theorem dJ1_indexOf_4cfef_17 : decode cJ1_indexOf_4cfef 17 = .ok (.arraylength, 1) := by decide +kernel
theorem dJ1_indexOf_4cfef_18 : decode cJ1_indexOf_4cfef 18 = .ok (.invokestatic 38, 3) := by decide +kernel
theorem dJ1_indexOf_4cfef_21 : decode cJ1_indexOf_4cfef 21 = .ok (.istore_n 3, 1) := by decide +kernel
theorem dJ1_indexOf_4cfef_22 : decode cJ1_indexOf_4cfef 22 = .ok (.iload_n 2, 1) := by decide +kernel
theorem dJ1_indexOf_4cfef_23 : decode cJ1_indexOf_4cfef 23 = .ok (.iload_n 3, 1) := by decide +kernel
theorem dJ1_indexOf_4cfef_24 : decode cJ1_indexOf_4cfef 24 = .ok (.if_icmp .lt 5, 3) := by decide +kernel
theorem dJ1_indexOf_4cfef_27 : decode cJ1_indexOf_4cfef 27 = .ok (.iconst (-1), 1) := by decide +kernel
theorem dJ1_indexOf_4cfef_28 : decode cJ1_indexOf_4cfef 28 = .ok (.ireturn, 1) := by decide +kernel
theorem dJ1_indexOf_4cfef_29 : decode cJ1_indexOf_4cfef 29 = .ok (.aload_n 0, 1) := by decide +kernel
theorem dJ1_indexOf_4cfef_30 : decode cJ1_indexOf_4cfef 30 = .ok (.iload_n 1, 1) := by decide +kernel
theorem dJ1_indexOf_4cfef_31 : decode cJ1_indexOf_4cfef 31 = .ok (.iload_n 2, 1) := by decide +kernel
theorem dJ1_indexOf_4cfef_32 : decode cJ1_indexOf_4cfef 32 = .ok (.iload_n 3, 1) := by decide +kernel
theorem dJ1_indexOf_4cfef_33 : decode cJ1_indexOf_4cfef 33 = .ok (.invokestatic 95, 3) := by decide +kernel
theorem dJ1_indexOf_4cfef_36 : decode cJ1_indexOf_4cfef 36 = .ok (.ireturn, 1) := by decide +kernel
theorem dJ1_indexOfChar_4cfef_0 : decode cJ1_indexOfChar_4cfef 0 = .ok (.iload_n 1, 1) := by decide +kernel
theorem dJ1_indexOfChar_4cfef_1 : decode cJ1_indexOfChar_4cfef 1 = .ok (.i2b, 1) := by decide +kernel
theorem dJ1_indexOfChar_4cfef_2 : decode cJ1_indexOfChar_4cfef 2 = .ok (.istore 4, 2) := by decide +kernel
theorem dJ1_indexOfChar_4cfef_4 : decode cJ1_indexOfChar_4cfef 4 = .ok (.iload_n 2, 1) := by decide +kernel
theorem dJ1_indexOfChar_4cfef_5 : decode cJ1_indexOfChar_4cfef 5 = .ok (.istore 5, 2) := by decide +kernel
theorem dJ1_indexOfChar_4cfef_7 : decode cJ1_indexOfChar_4cfef 7 = .ok (.iload 5, 2) := by decide +kernel
theorem dJ1_indexOfChar_4cfef_9 : decode cJ1_indexOfChar_4cfef 9 = .ok (.iload_n 3, 1) := by decide +kernel
theorem dJ1_indexOfChar_4cfef_10 : decode cJ1_indexOfChar_4cfef 10 = .ok (.if_icmp .ge 21, 3) := by decide +kernel
theorem dJ1_indexOfChar_4cfef_13 : decode cJ1_indexOfChar_4cfef 13 = .ok (.aload_n 0, 1) := by decide +kernel
theorem dJ1_indexOfChar_4cfef_14 : decode cJ1_indexOfChar_4cfef 14 = .ok (.iload 5, 2) := by decide +kernel
theorem dJ1_indexOfChar_4cfef_16 : decode cJ1_indexOfChar_4cfef 16 = .ok (.baload, 1) := by decide +kernel
theorem dJ1_indexOfChar_4cfef_17 : decode cJ1_indexOfChar_4cfef 17 = .ok (.iload 4, 2) := by decide +kernel
theorem dJ1_indexOfChar_4cfef_19 : decode cJ1_indexOfChar_4cfef 19 = .ok (.if_icmp .ne 6, 3) := by decide +kernel
theorem dJ1_indexOfChar_4cfef_22 : decode cJ1_indexOfChar_4cfef 22 = .ok (.iload 5, 2) := by decide +kernel
theorem dJ1_indexOfChar_4cfef_24 : decode cJ1_indexOfChar_4cfef 24 = .ok (.ireturn, 1) := by decide +kernel
theorem dJ1_indexOfChar_4cfef_25 : decode cJ1_indexOfChar_4cfef 25 = .ok (.iinc 5 1, 3) := by decide +kernel
theorem dJ1_indexOfChar_4cfef_28 : decode cJ1_indexOfChar_4cfef 28 = .ok (.goto (-21), 3) := by decide +kernel
theorem dJ1_indexOfChar_4cfef_31 : decode cJ1_indexOfChar_4cfef 31 = .ok (.iconst (-1), 1) := by decide +kernel
theorem dJ1_indexOfChar_4cfef_32 : decode cJ1_indexOfChar_4cfef 32 = .ok (.ireturn, 1) := by decide +kernel
theorem dJ7_fill_d0a16_0 : decode cJ7_fill_d0a16 0 = .ok (.iconst 0, 1) := by decide +kernel
theorem dJ7_fill_d0a16_1 : decode cJ7_fill_d0a16 1 = .ok (.istore_n 3, 1) := by decide +kernel
theorem dJ7_fill_d0a16_2 : decode cJ7_fill_d0a16 2 = .ok (.aload_n 0, 1) := by decide +kernel
theorem dJ7_fill_d0a16_3 : decode cJ7_fill_d0a16 3 = .ok (.arraylength, 1) := by decide +kernel
theorem dJ7_fill_d0a16_4 : decode cJ7_fill_d0a16 4 = .ok (.istore 4, 2) := by decide +kernel
theorem dJ7_fill_d0a16_6 : decode cJ7_fill_d0a16 6 = .ok (.iload_n 3, 1) := by decide +kernel
theorem dJ7_fill_d0a16_7 : decode cJ7_fill_d0a16 7 = .ok (.iload 4, 2) := by decide +kernel
theorem dJ7_fill_d0a16_9 : decode cJ7_fill_d0a16 9 = .ok (.if_icmp .ge 13, 3) := by decide +kernel
theorem dJ7_fill_d0a16_12 : decode cJ7_fill_d0a16 12 = .ok (.aload_n 0, 1) := by decide +kernel
theorem dJ7_fill_d0a16_13 : decode cJ7_fill_d0a16 13 = .ok (.iload_n 3, 1) := by decide +kernel
theorem dJ7_fill_d0a16_14 : decode cJ7_fill_d0a16 14 = .ok (.lload_n 1, 1) := by decide +kernel
theorem dJ7_fill_d0a16_15 : decode cJ7_fill_d0a16 15 = .ok (.lastore, 1) := by decide +kernel
theorem dJ7_fill_d0a16_16 : decode cJ7_fill_d0a16 16 = .ok (.iinc 3 1, 3) := by decide +kernel
theorem dJ7_fill_d0a16_19 : decode cJ7_fill_d0a16 19 = .ok (.goto (-13), 3) := by decide +kernel
theorem dJ7_fill_d0a16_22 : decode cJ7_fill_d0a16 22 = .ok (.return_, 1) := by decide +kernel
theorem dJ7_fill_53178_0 : decode cJ7_fill_53178 0 = .ok (.iconst 0, 1) := by decide +kernel
theorem dJ7_fill_53178_1 : decode cJ7_fill_53178 1 = .ok (.istore_n 2, 1) := by decide +kernel
theorem dJ7_fill_53178_2 : decode cJ7_fill_53178 2 = .ok (.aload_n 0, 1) := by decide +kernel
theorem dJ7_fill_53178_3 : decode cJ7_fill_53178 3 = .ok (.arraylength, 1) := by decide +kernel
theorem dJ7_fill_53178_4 : decode cJ7_fill_53178 4 = .ok (.istore_n 3, 1) := by decide +kernel
theorem dJ7_fill_53178_5 : decode cJ7_fill_53178 5 = .ok (.iload_n 2, 1) := by decide +kernel
theorem dJ7_fill_53178_6 : decode cJ7_fill_53178 6 = .ok (.iload_n 3, 1) := by decide +kernel
theorem dJ7_fill_53178_7 : decode cJ7_fill_53178 7 = .ok (.if_icmp .ge 13, 3) := by decide +kernel
theorem dJ7_fill_53178_10 : decode cJ7_fill_53178 10 = .ok (.aload_n 0, 1) := by decide +kernel
theorem dJ7_fill_53178_11 : decode cJ7_fill_53178 11 = .ok (.iload_n 2, 1) := by decide +kernel
theorem dJ7_fill_53178_12 : decode cJ7_fill_53178 12 = .ok (.iload_n 1, 1) := by decide +kernel
theorem dJ7_fill_53178_13 : decode cJ7_fill_53178 13 = .ok (.iastore, 1) := by decide +kernel
theorem dJ7_fill_53178_14 : decode cJ7_fill_53178 14 = .ok (.iinc 2 1, 3) := by decide +kernel
theorem dJ7_fill_53178_17 : decode cJ7_fill_53178 17 = .ok (.goto (-12), 3) := by decide +kernel
theorem dJ7_fill_53178_20 : decode cJ7_fill_53178 20 = .ok (.return_, 1) := by decide +kernel
theorem dL_law_0 : decode cL_law 0 = .ok (.new 7, 3) := by decide +kernel
theorem dL_law_3 : decode cL_law 3 = .ok (.dup, 1) := by decide +kernel
theorem dL_law_4 : decode cL_law 4 = .ok (.invokespecial 9, 3) := by decide +kernel
theorem dL_law_7 : decode cL_law 7 = .ok (.astore_n 1, 1) := by decide +kernel
theorem dL_law_8 : decode cL_law 8 = .ok (.new 10, 3) := by decide +kernel
theorem dL_law_11 : decode cL_law 11 = .ok (.dup, 1) := by decide +kernel
theorem dL_law_12 : decode cL_law 12 = .ok (.invokespecial 12, 3) := by decide +kernel
theorem dL_law_15 : decode cL_law 15 = .ok (.astore_n 2, 1) := by decide +kernel
theorem dL_law_16 : decode cL_law 16 = .ok (.iconst 0, 1) := by decide +kernel
theorem dL_law_17 : decode cL_law 17 = .ok (.istore_n 3, 1) := by decide +kernel
theorem dL_law_18 : decode cL_law 18 = .ok (.iload_n 3, 1) := by decide +kernel
theorem dL_law_19 : decode cL_law 19 = .ok (.aload_n 0, 1) := by decide +kernel
theorem dL_law_20 : decode cL_law 20 = .ok (.arraylength, 1) := by decide +kernel
theorem dL_law_21 : decode cL_law 21 = .ok (.bipush 6, 2) := by decide +kernel
theorem dL_law_23 : decode cL_law 23 = .ok (.isub, 1) := by decide +kernel
theorem dL_law_24 : decode cL_law 24 = .ok (.if_icmp .gt 1294, 3) := by decide +kernel
theorem dL_law_27 : decode cL_law 27 = .ok (.aload_n 0, 1) := by decide +kernel
theorem dL_law_28 : decode cL_law 28 = .ok (.iload_n 3, 1) := by decide +kernel
theorem dL_law_29 : decode cL_law 29 = .ok (.iaload, 1) := by decide +kernel
theorem dL_law_30 : decode cL_law 30 = .ok (.bipush 63, 2) := by decide +kernel
theorem dL_law_32 : decode cL_law 32 = .ok (.iand, 1) := by decide +kernel
theorem dL_law_33 : decode cL_law 33 = .ok (.tableswitch 1279 0 35 #[159, 192, 215, 238, 261, 294, 327, 350, 383, 426, 449, 472, 525, 568, 591, 614, 637, 650, 683, 706, 739, 772, 825, 838, 851, 884, 907, 941, 984, 1027, 1050, 1103, 1146, 1209, 1242, 1265], 159) := by decide +kernel
theorem dL_law_192 : decode cL_law 192 = .ok (.aload_n 1, 1) := by decide +kernel
theorem dL_law_193 : decode cL_law 193 = .ok (.aload_n 0, 1) := by decide +kernel
theorem dL_law_194 : decode cL_law 194 = .ok (.iload_n 3, 1) := by decide +kernel
theorem dL_law_195 : decode cL_law 195 = .ok (.iconst 1, 1) := by decide +kernel
theorem dL_law_196 : decode cL_law 196 = .ok (.iadd, 1) := by decide +kernel
theorem dL_law_197 : decode cL_law 197 = .ok (.iaload, 1) := by decide +kernel
theorem dL_law_198 : decode cL_law 198 = .ok (.aload_n 0, 1) := by decide +kernel
theorem dL_law_199 : decode cL_law 199 = .ok (.iload_n 3, 1) := by decide +kernel
theorem dL_law_200 : decode cL_law 200 = .ok (.iconst 2, 1) := by decide +kernel
theorem dL_law_201 : decode cL_law 201 = .ok (.iadd, 1) := by decide +kernel
theorem dL_law_202 : decode cL_law 202 = .ok (.iaload, 1) := by decide +kernel
theorem dL_law_203 : decode cL_law 203 = .ok (.invokevirtual 13, 3) := by decide +kernel
theorem dL_law_206 : decode cL_law 206 = .ok (.aload_n 2, 1) := by decide +kernel
theorem dL_law_207 : decode cL_law 207 = .ok (.aload_n 0, 1) := by decide +kernel
theorem dL_law_208 : decode cL_law 208 = .ok (.iload_n 3, 1) := by decide +kernel
theorem dL_law_209 : decode cL_law 209 = .ok (.iconst 1, 1) := by decide +kernel
theorem dL_law_210 : decode cL_law 210 = .ok (.iadd, 1) := by decide +kernel
theorem dL_law_211 : decode cL_law 211 = .ok (.iaload, 1) := by decide +kernel
theorem dL_law_212 : decode cL_law 212 = .ok (.aload_n 0, 1) := by decide +kernel
theorem dL_law_213 : decode cL_law 213 = .ok (.iload_n 3, 1) := by decide +kernel
theorem dL_law_214 : decode cL_law 214 = .ok (.iconst 2, 1) := by decide +kernel
theorem dL_law_215 : decode cL_law 215 = .ok (.iadd, 1) := by decide +kernel
theorem dL_law_216 : decode cL_law 216 = .ok (.iaload, 1) := by decide +kernel
theorem dL_law_217 : decode cL_law 217 = .ok (.invokevirtual 17, 3) := by decide +kernel
theorem dL_law_220 : decode cL_law 220 = .ok (.if_icmp .eq 1092, 3) := by decide +kernel
theorem dL_law_223 : decode cL_law 223 = .ok (.iconst 0, 1) := by decide +kernel
theorem dL_law_224 : decode cL_law 224 = .ok (.ireturn, 1) := by decide +kernel
theorem dL_law_225 : decode cL_law 225 = .ok (.aload_n 1, 1) := by decide +kernel
theorem dL_law_226 : decode cL_law 226 = .ok (.aload_n 0, 1) := by decide +kernel
theorem dL_law_227 : decode cL_law 227 = .ok (.iload_n 3, 1) := by decide +kernel
theorem dL_law_228 : decode cL_law 228 = .ok (.iconst 1, 1) := by decide +kernel
theorem dL_law_229 : decode cL_law 229 = .ok (.iadd, 1) := by decide +kernel
theorem dL_law_230 : decode cL_law 230 = .ok (.iaload, 1) := by decide +kernel
theorem dL_law_231 : decode cL_law 231 = .ok (.invokevirtual 18, 3) := by decide +kernel
theorem dL_law_234 : decode cL_law 234 = .ok (.aload_n 2, 1) := by decide +kernel
theorem dL_law_235 : decode cL_law 235 = .ok (.aload_n 0, 1) := by decide +kernel
theorem dL_law_236 : decode cL_law 236 = .ok (.iload_n 3, 1) := by decide +kernel
theorem dL_law_237 : decode cL_law 237 = .ok (.iconst 1, 1) := by decide +kernel
theorem dL_law_238 : decode cL_law 238 = .ok (.iadd, 1) := by decide +kernel
theorem dL_law_239 : decode cL_law 239 = .ok (.iaload, 1) := by decide +kernel
theorem dL_law_240 : decode cL_law 240 = .ok (.invokevirtual 22, 3) := by decide +kernel
theorem dL_law_243 : decode cL_law 243 = .ok (.if_icmp .eq 1069, 3) := by decide +kernel
theorem dL_law_246 : decode cL_law 246 = .ok (.iconst 0, 1) := by decide +kernel
theorem dL_law_247 : decode cL_law 247 = .ok (.ireturn, 1) := by decide +kernel
theorem dL_law_248 : decode cL_law 248 = .ok (.aload_n 1, 1) := by decide +kernel
theorem dL_law_249 : decode cL_law 249 = .ok (.aload_n 0, 1) := by decide +kernel
theorem dL_law_250 : decode cL_law 250 = .ok (.iload_n 3, 1) := by decide +kernel
theorem dL_law_251 : decode cL_law 251 = .ok (.iconst 1, 1) := by decide +kernel
theorem dL_law_252 : decode cL_law 252 = .ok (.iadd, 1) := by decide +kernel
theorem dL_law_253 : decode cL_law 253 = .ok (.iaload, 1) := by decide +kernel
theorem dL_law_254 : decode cL_law 254 = .ok (.invokevirtual 23, 3) := by decide +kernel
theorem dL_law_257 : decode cL_law 257 = .ok (.aload_n 2, 1) := by decide +kernel
theorem dL_law_258 : decode cL_law 258 = .ok (.aload_n 0, 1) := by decide +kernel
theorem dL_law_259 : decode cL_law 259 = .ok (.iload_n 3, 1) := by decide +kernel
theorem dL_law_260 : decode cL_law 260 = .ok (.iconst 1, 1) := by decide +kernel
theorem dL_law_261 : decode cL_law 261 = .ok (.iadd, 1) := by decide +kernel
theorem dL_law_262 : decode cL_law 262 = .ok (.iaload, 1) := by decide +kernel
theorem dL_law_263 : decode cL_law 263 = .ok (.invokevirtual 26, 3) := by decide +kernel
theorem dL_law_266 : decode cL_law 266 = .ok (.if_icmp .eq 1046, 3) := by decide +kernel
theorem dL_law_269 : decode cL_law 269 = .ok (.iconst 0, 1) := by decide +kernel
theorem dL_law_270 : decode cL_law 270 = .ok (.ireturn, 1) := by decide +kernel
theorem dL_law_271 : decode cL_law 271 = .ok (.aload_n 1, 1) := by decide +kernel
theorem dL_law_272 : decode cL_law 272 = .ok (.aload_n 0, 1) := by decide +kernel
theorem dL_law_273 : decode cL_law 273 = .ok (.iload_n 3, 1) := by decide +kernel
theorem dL_law_274 : decode cL_law 274 = .ok (.iconst 1, 1) := by decide +kernel
theorem dL_law_275 : decode cL_law 275 = .ok (.iadd, 1) := by decide +kernel
theorem dL_law_276 : decode cL_law 276 = .ok (.iaload, 1) := by decide +kernel
theorem dL_law_277 : decode cL_law 277 = .ok (.invokevirtual 27, 3) := by decide +kernel
theorem dL_law_280 : decode cL_law 280 = .ok (.aload_n 2, 1) := by decide +kernel
theorem dL_law_281 : decode cL_law 281 = .ok (.aload_n 0, 1) := by decide +kernel
theorem dL_law_282 : decode cL_law 282 = .ok (.iload_n 3, 1) := by decide +kernel
theorem dL_law_283 : decode cL_law 283 = .ok (.iconst 1, 1) := by decide +kernel
theorem dL_law_284 : decode cL_law 284 = .ok (.iadd, 1) := by decide +kernel
theorem dL_law_285 : decode cL_law 285 = .ok (.iaload, 1) := by decide +kernel
theorem dL_law_286 : decode cL_law 286 = .ok (.invokevirtual 30, 3) := by decide +kernel
theorem dL_law_289 : decode cL_law 289 = .ok (.if_icmp .eq 1023, 3) := by decide +kernel
theorem dL_law_292 : decode cL_law 292 = .ok (.iconst 0, 1) := by decide +kernel
theorem dL_law_293 : decode cL_law 293 = .ok (.ireturn, 1) := by decide +kernel
theorem dL_law_294 : decode cL_law 294 = .ok (.aload_n 1, 1) := by decide +kernel
theorem dL_law_295 : decode cL_law 295 = .ok (.aload_n 0, 1) := by decide +kernel
theorem dL_law_296 : decode cL_law 296 = .ok (.iload_n 3, 1) := by decide +kernel
theorem dL_law_297 : decode cL_law 297 = .ok (.iconst 1, 1) := by decide +kernel
theorem dL_law_298 : decode cL_law 298 = .ok (.iadd, 1) := by decide +kernel
theorem dL_law_299 : decode cL_law 299 = .ok (.iaload, 1) := by decide +kernel
theorem dL_law_300 : decode cL_law 300 = .ok (.aload_n 0, 1) := by decide +kernel
theorem dL_law_301 : decode cL_law 301 = .ok (.iload_n 3, 1) := by decide +kernel
theorem dL_law_302 : decode cL_law 302 = .ok (.iconst 2, 1) := by decide +kernel
theorem dL_law_303 : decode cL_law 303 = .ok (.iadd, 1) := by decide +kernel
theorem dL_law_304 : decode cL_law 304 = .ok (.iaload, 1) := by decide +kernel
theorem dL_law_305 : decode cL_law 305 = .ok (.invokevirtual 31, 3) := by decide +kernel
theorem dL_law_308 : decode cL_law 308 = .ok (.aload_n 2, 1) := by decide +kernel
theorem dL_law_309 : decode cL_law 309 = .ok (.aload_n 0, 1) := by decide +kernel
theorem dL_law_310 : decode cL_law 310 = .ok (.iload_n 3, 1) := by decide +kernel
theorem dL_law_311 : decode cL_law 311 = .ok (.iconst 1, 1) := by decide +kernel
theorem dL_law_312 : decode cL_law 312 = .ok (.iadd, 1) := by decide +kernel
theorem dL_law_313 : decode cL_law 313 = .ok (.iaload, 1) := by decide +kernel
theorem dL_law_314 : decode cL_law 314 = .ok (.aload_n 0, 1) := by decide +kernel
theorem dL_law_315 : decode cL_law 315 = .ok (.iload_n 3, 1) := by decide +kernel
theorem dL_law_316 : decode cL_law 316 = .ok (.iconst 2, 1) := by decide +kernel
theorem dL_law_317 : decode cL_law 317 = .ok (.iadd, 1) := by decide +kernel
theorem dL_law_318 : decode cL_law 318 = .ok (.iaload, 1) := by decide +kernel
theorem dL_law_319 : decode cL_law 319 = .ok (.invokevirtual 34, 3) := by decide +kernel
theorem dL_law_322 : decode cL_law 322 = .ok (.if_icmp .eq 990, 3) := by decide +kernel
theorem dL_law_325 : decode cL_law 325 = .ok (.iconst 0, 1) := by decide +kernel
theorem dL_law_326 : decode cL_law 326 = .ok (.ireturn, 1) := by decide +kernel
theorem dL_law_327 : decode cL_law 327 = .ok (.aload_n 1, 1) := by decide +kernel
theorem dL_law_328 : decode cL_law 328 = .ok (.aload_n 0, 1) := by decide +kernel
theorem dL_law_329 : decode cL_law 329 = .ok (.iload_n 3, 1) := by decide +kernel
theorem dL_law_330 : decode cL_law 330 = .ok (.iconst 1, 1) := by decide +kernel
theorem dL_law_331 : decode cL_law 331 = .ok (.iadd, 1) := by decide +kernel
theorem dL_law_332 : decode cL_law 332 = .ok (.iaload, 1) := by decide +kernel
theorem dL_law_333 : decode cL_law 333 = .ok (.aload_n 0, 1) := by decide +kernel
theorem dL_law_334 : decode cL_law 334 = .ok (.iload_n 3, 1) := by decide +kernel
theorem dL_law_335 : decode cL_law 335 = .ok (.iconst 2, 1) := by decide +kernel
theorem dL_law_336 : decode cL_law 336 = .ok (.iadd, 1) := by decide +kernel
theorem dL_law_337 : decode cL_law 337 = .ok (.iaload, 1) := by decide +kernel
theorem dL_law_338 : decode cL_law 338 = .ok (.invokevirtual 35, 3) := by decide +kernel
theorem dL_law_341 : decode cL_law 341 = .ok (.aload_n 2, 1) := by decide +kernel
theorem dL_law_342 : decode cL_law 342 = .ok (.aload_n 0, 1) := by decide +kernel
theorem dL_law_343 : decode cL_law 343 = .ok (.iload_n 3, 1) := by decide +kernel
theorem dL_law_344 : decode cL_law 344 = .ok (.iconst 1, 1) := by decide +kernel
theorem dL_law_345 : decode cL_law 345 = .ok (.iadd, 1) := by decide +kernel
theorem dL_law_346 : decode cL_law 346 = .ok (.iaload, 1) := by decide +kernel
theorem dL_law_347 : decode cL_law 347 = .ok (.aload_n 0, 1) := by decide +kernel
theorem dL_law_348 : decode cL_law 348 = .ok (.iload_n 3, 1) := by decide +kernel
theorem dL_law_349 : decode cL_law 349 = .ok (.iconst 2, 1) := by decide +kernel
theorem dL_law_350 : decode cL_law 350 = .ok (.iadd, 1) := by decide +kernel
theorem dL_law_351 : decode cL_law 351 = .ok (.iaload, 1) := by decide +kernel
theorem dL_law_352 : decode cL_law 352 = .ok (.invokevirtual 38, 3) := by decide +kernel
theorem dL_law_355 : decode cL_law 355 = .ok (.if_icmp .eq 957, 3) := by decide +kernel
theorem dL_law_358 : decode cL_law 358 = .ok (.iconst 0, 1) := by decide +kernel
theorem dL_law_359 : decode cL_law 359 = .ok (.ireturn, 1) := by decide +kernel
theorem dL_law_360 : decode cL_law 360 = .ok (.aload_n 1, 1) := by decide +kernel
theorem dL_law_361 : decode cL_law 361 = .ok (.aload_n 0, 1) := by decide +kernel
theorem dL_law_362 : decode cL_law 362 = .ok (.iload_n 3, 1) := by decide +kernel
theorem dL_law_363 : decode cL_law 363 = .ok (.iconst 1, 1) := by decide +kernel
theorem dL_law_364 : decode cL_law 364 = .ok (.iadd, 1) := by decide +kernel
theorem dL_law_365 : decode cL_law 365 = .ok (.iaload, 1) := by decide +kernel
theorem dL_law_366 : decode cL_law 366 = .ok (.invokevirtual 39, 3) := by decide +kernel
theorem dL_law_369 : decode cL_law 369 = .ok (.aload_n 2, 1) := by decide +kernel
theorem dL_law_370 : decode cL_law 370 = .ok (.aload_n 0, 1) := by decide +kernel
theorem dL_law_371 : decode cL_law 371 = .ok (.iload_n 3, 1) := by decide +kernel
theorem dL_law_372 : decode cL_law 372 = .ok (.iconst 1, 1) := by decide +kernel
theorem dL_law_373 : decode cL_law 373 = .ok (.iadd, 1) := by decide +kernel
theorem dL_law_374 : decode cL_law 374 = .ok (.iaload, 1) := by decide +kernel
theorem dL_law_375 : decode cL_law 375 = .ok (.invokevirtual 42, 3) := by decide +kernel
theorem dL_law_378 : decode cL_law 378 = .ok (.if_icmp .eq 934, 3) := by decide +kernel
theorem dL_law_381 : decode cL_law 381 = .ok (.iconst 0, 1) := by decide +kernel
theorem dL_law_382 : decode cL_law 382 = .ok (.ireturn, 1) := by decide +kernel
theorem dL_law_383 : decode cL_law 383 = .ok (.aload_n 1, 1) := by decide +kernel
theorem dL_law_384 : decode cL_law 384 = .ok (.aload_n 0, 1) := by decide +kernel
theorem dL_law_385 : decode cL_law 385 = .ok (.iload_n 3, 1) := by decide +kernel
theorem dL_law_386 : decode cL_law 386 = .ok (.iconst 1, 1) := by decide +kernel
theorem dL_law_387 : decode cL_law 387 = .ok (.iadd, 1) := by decide +kernel
theorem dL_law_388 : decode cL_law 388 = .ok (.iaload, 1) := by decide +kernel
theorem dL_law_389 : decode cL_law 389 = .ok (.aload_n 0, 1) := by decide +kernel
theorem dL_law_390 : decode cL_law 390 = .ok (.iload_n 3, 1) := by decide +kernel
theorem dL_law_391 : decode cL_law 391 = .ok (.iconst 2, 1) := by decide +kernel
theorem dL_law_392 : decode cL_law 392 = .ok (.iadd, 1) := by decide +kernel
theorem dL_law_393 : decode cL_law 393 = .ok (.iaload, 1) := by decide +kernel
theorem dL_law_394 : decode cL_law 394 = .ok (.invokevirtual 43, 3) := by decide +kernel
theorem dL_law_397 : decode cL_law 397 = .ok (.aload_n 2, 1) := by decide +kernel
theorem dL_law_398 : decode cL_law 398 = .ok (.aload_n 0, 1) := by decide +kernel
theorem dL_law_399 : decode cL_law 399 = .ok (.iload_n 3, 1) := by decide +kernel
theorem dL_law_400 : decode cL_law 400 = .ok (.iconst 1, 1) := by decide +kernel
theorem dL_law_401 : decode cL_law 401 = .ok (.iadd, 1) := by decide +kernel
theorem dL_law_402 : decode cL_law 402 = .ok (.iaload, 1) := by decide +kernel
theorem dL_law_403 : decode cL_law 403 = .ok (.aload_n 0, 1) := by decide +kernel
theorem dL_law_404 : decode cL_law 404 = .ok (.iload_n 3, 1) := by decide +kernel
theorem dL_law_405 : decode cL_law 405 = .ok (.iconst 2, 1) := by decide +kernel
theorem dL_law_406 : decode cL_law 406 = .ok (.iadd, 1) := by decide +kernel
theorem dL_law_407 : decode cL_law 407 = .ok (.iaload, 1) := by decide +kernel
theorem dL_law_408 : decode cL_law 408 = .ok (.invokevirtual 46, 3) := by decide +kernel
theorem dL_law_411 : decode cL_law 411 = .ok (.if_icmp .eq 901, 3) := by decide +kernel
theorem dL_law_414 : decode cL_law 414 = .ok (.iconst 0, 1) := by decide +kernel
theorem dL_law_415 : decode cL_law 415 = .ok (.ireturn, 1) := by decide +kernel
theorem dL_law_416 : decode cL_law 416 = .ok (.aload_n 1, 1) := by decide +kernel
theorem dL_law_417 : decode cL_law 417 = .ok (.aload_n 0, 1) := by decide +kernel
theorem dL_law_418 : decode cL_law 418 = .ok (.iload_n 3, 1) := by decide +kernel
theorem dL_law_419 : decode cL_law 419 = .ok (.iconst 1, 1) := by decide +kernel
theorem dL_law_420 : decode cL_law 420 = .ok (.iadd, 1) := by decide +kernel
theorem dL_law_421 : decode cL_law 421 = .ok (.iaload, 1) := by decide +kernel
theorem dL_law_422 : decode cL_law 422 = .ok (.aload_n 0, 1) := by decide +kernel
theorem dL_law_423 : decode cL_law 423 = .ok (.iload_n 3, 1) := by decide +kernel
theorem dL_law_424 : decode cL_law 424 = .ok (.iconst 2, 1) := by decide +kernel
theorem dL_law_425 : decode cL_law 425 = .ok (.iadd, 1) := by decide +kernel
theorem dL_law_426 : decode cL_law 426 = .ok (.iaload, 1) := by decide +kernel
theorem dL_law_427 : decode cL_law 427 = .ok (.aload_n 0, 1) := by decide +kernel
theorem dL_law_428 : decode cL_law 428 = .ok (.iload_n 3, 1) := by decide +kernel
theorem dL_law_429 : decode cL_law 429 = .ok (.iconst 3, 1) := by decide +kernel
theorem dL_law_430 : decode cL_law 430 = .ok (.iadd, 1) := by decide +kernel
theorem dL_law_431 : decode cL_law 431 = .ok (.iaload, 1) := by decide +kernel
theorem dL_law_432 : decode cL_law 432 = .ok (.invokevirtual 47, 3) := by decide +kernel
theorem dL_law_435 : decode cL_law 435 = .ok (.aload_n 2, 1) := by decide +kernel
theorem dL_law_436 : decode cL_law 436 = .ok (.aload_n 0, 1) := by decide +kernel
theorem dL_law_437 : decode cL_law 437 = .ok (.iload_n 3, 1) := by decide +kernel
theorem dL_law_438 : decode cL_law 438 = .ok (.iconst 1, 1) := by decide +kernel
theorem dL_law_439 : decode cL_law 439 = .ok (.iadd, 1) := by decide +kernel
theorem dL_law_440 : decode cL_law 440 = .ok (.iaload, 1) := by decide +kernel
theorem dL_law_441 : decode cL_law 441 = .ok (.aload_n 0, 1) := by decide +kernel
theorem dL_law_442 : decode cL_law 442 = .ok (.iload_n 3, 1) := by decide +kernel
theorem dL_law_443 : decode cL_law 443 = .ok (.iconst 2, 1) := by decide +kernel
theorem dL_law_444 : decode cL_law 444 = .ok (.iadd, 1) := by decide +kernel
theorem dL_law_445 : decode cL_law 445 = .ok (.iaload, 1) := by decide +kernel
theorem dL_law_446 : decode cL_law 446 = .ok (.aload_n 0, 1) := by decide +kernel
theorem dL_law_447 : decode cL_law 447 = .ok (.iload_n 3, 1) := by decide +kernel
theorem dL_law_448 : decode cL_law 448 = .ok (.iconst 3, 1) := by decide +kernel
theorem dL_law_449 : decode cL_law 449 = .ok (.iadd, 1) := by decide +kernel
theorem dL_law_450 : decode cL_law 450 = .ok (.iaload, 1) := by decide +kernel
theorem dL_law_451 : decode cL_law 451 = .ok (.invokevirtual 51, 3) := by decide +kernel
theorem dL_law_454 : decode cL_law 454 = .ok (.if_icmp .eq 858, 3) := by decide +kernel
theorem dL_law_457 : decode cL_law 457 = .ok (.iconst 0, 1) := by decide +kernel
theorem dL_law_458 : decode cL_law 458 = .ok (.ireturn, 1) := by decide +kernel
theorem dL_law_459 : decode cL_law 459 = .ok (.aload_n 1, 1) := by decide +kernel
theorem dL_law_460 : decode cL_law 460 = .ok (.aload_n 0, 1) := by decide +kernel
theorem dL_law_461 : decode cL_law 461 = .ok (.iload_n 3, 1) := by decide +kernel
theorem dL_law_462 : decode cL_law 462 = .ok (.iconst 1, 1) := by decide +kernel
theorem dL_law_463 : decode cL_law 463 = .ok (.iadd, 1) := by decide +kernel
theorem dL_law_464 : decode cL_law 464 = .ok (.iaload, 1) := by decide +kernel
theorem dL_law_465 : decode cL_law 465 = .ok (.invokevirtual 52, 3) := by decide +kernel
theorem dL_law_468 : decode cL_law 468 = .ok (.aload_n 2, 1) := by decide +kernel
theorem dL_law_469 : decode cL_law 469 = .ok (.aload_n 0, 1) := by decide +kernel
theorem dL_law_470 : decode cL_law 470 = .ok (.iload_n 3, 1) := by decide +kernel
theorem dL_law_471 : decode cL_law 471 = .ok (.iconst 1, 1) := by decide +kernel
theorem dL_law_472 : decode cL_law 472 = .ok (.iadd, 1) := by decide +kernel
theorem dL_law_473 : decode cL_law 473 = .ok (.iaload, 1) := by decide +kernel
theorem dL_law_474 : decode cL_law 474 = .ok (.invokevirtual 55, 3) := by decide +kernel
theorem dL_law_477 : decode cL_law 477 = .ok (.if_icmp .eq 835, 3) := by decide +kernel
theorem dL_law_480 : decode cL_law 480 = .ok (.iconst 0, 1) := by decide +kernel
theorem dL_law_481 : decode cL_law 481 = .ok (.ireturn, 1) := by decide +kernel
theorem dL_law_482 : decode cL_law 482 = .ok (.aload_n 1, 1) := by decide +kernel
theorem dL_law_483 : decode cL_law 483 = .ok (.aload_n 0, 1) := by decide +kernel
theorem dL_law_484 : decode cL_law 484 = .ok (.iload_n 3, 1) := by decide +kernel
theorem dL_law_485 : decode cL_law 485 = .ok (.iconst 1, 1) := by decide +kernel
theorem dL_law_486 : decode cL_law 486 = .ok (.iadd, 1) := by decide +kernel
theorem dL_law_487 : decode cL_law 487 = .ok (.iaload, 1) := by decide +kernel
theorem dL_law_488 : decode cL_law 488 = .ok (.invokevirtual 56, 3) := by decide +kernel
theorem dL_law_491 : decode cL_law 491 = .ok (.aload_n 2, 1) := by decide +kernel
theorem dL_law_492 : decode cL_law 492 = .ok (.aload_n 0, 1) := by decide +kernel
theorem dL_law_493 : decode cL_law 493 = .ok (.iload_n 3, 1) := by decide +kernel
theorem dL_law_494 : decode cL_law 494 = .ok (.iconst 1, 1) := by decide +kernel
theorem dL_law_495 : decode cL_law 495 = .ok (.iadd, 1) := by decide +kernel
theorem dL_law_496 : decode cL_law 496 = .ok (.iaload, 1) := by decide +kernel
theorem dL_law_497 : decode cL_law 497 = .ok (.invokevirtual 59, 3) := by decide +kernel
theorem dL_law_500 : decode cL_law 500 = .ok (.if_icmp .eq 812, 3) := by decide +kernel
theorem dL_law_503 : decode cL_law 503 = .ok (.iconst 0, 1) := by decide +kernel
theorem dL_law_504 : decode cL_law 504 = .ok (.ireturn, 1) := by decide +kernel
theorem dL_law_505 : decode cL_law 505 = .ok (.aload_n 1, 1) := by decide +kernel
theorem dL_law_506 : decode cL_law 506 = .ok (.aload_n 0, 1) := by decide +kernel
theorem dL_law_507 : decode cL_law 507 = .ok (.iload_n 3, 1) := by decide +kernel
theorem dL_law_508 : decode cL_law 508 = .ok (.iconst 1, 1) := by decide +kernel
theorem dL_law_509 : decode cL_law 509 = .ok (.iadd, 1) := by decide +kernel
theorem dL_law_510 : decode cL_law 510 = .ok (.iaload, 1) := by decide +kernel
theorem dL_law_511 : decode cL_law 511 = .ok (.aload_n 0, 1) := by decide +kernel
theorem dL_law_512 : decode cL_law 512 = .ok (.iload_n 3, 1) := by decide +kernel
theorem dL_law_513 : decode cL_law 513 = .ok (.iconst 2, 1) := by decide +kernel
theorem dL_law_514 : decode cL_law 514 = .ok (.iadd, 1) := by decide +kernel
theorem dL_law_515 : decode cL_law 515 = .ok (.iaload, 1) := by decide +kernel
theorem dL_law_516 : decode cL_law 516 = .ok (.aload_n 0, 1) := by decide +kernel
theorem dL_law_517 : decode cL_law 517 = .ok (.iload_n 3, 1) := by decide +kernel
theorem dL_law_518 : decode cL_law 518 = .ok (.iconst 3, 1) := by decide +kernel
theorem dL_law_519 : decode cL_law 519 = .ok (.iadd, 1) := by decide +kernel
theorem dL_law_520 : decode cL_law 520 = .ok (.iaload, 1) := by decide +kernel
theorem dL_law_521 : decode cL_law 521 = .ok (.aload_n 0, 1) := by decide +kernel
theorem dL_law_522 : decode cL_law 522 = .ok (.iload_n 3, 1) := by decide +kernel
theorem dL_law_523 : decode cL_law 523 = .ok (.iconst 4, 1) := by decide +kernel
theorem dL_law_524 : decode cL_law 524 = .ok (.iadd, 1) := by decide +kernel
theorem dL_law_525 : decode cL_law 525 = .ok (.iaload, 1) := by decide +kernel
theorem dL_law_526 : decode cL_law 526 = .ok (.invokevirtual 60, 3) := by decide +kernel
theorem dL_law_529 : decode cL_law 529 = .ok (.aload_n 2, 1) := by decide +kernel
theorem dL_law_530 : decode cL_law 530 = .ok (.aload_n 0, 1) := by decide +kernel
theorem dL_law_531 : decode cL_law 531 = .ok (.iload_n 3, 1) := by decide +kernel
theorem dL_law_532 : decode cL_law 532 = .ok (.iconst 1, 1) := by decide +kernel
theorem dL_law_533 : decode cL_law 533 = .ok (.iadd, 1) := by decide +kernel
theorem dL_law_534 : decode cL_law 534 = .ok (.iaload, 1) := by decide +kernel
theorem dL_law_535 : decode cL_law 535 = .ok (.aload_n 0, 1) := by decide +kernel
theorem dL_law_536 : decode cL_law 536 = .ok (.iload_n 3, 1) := by decide +kernel
theorem dL_law_537 : decode cL_law 537 = .ok (.iconst 2, 1) := by decide +kernel
theorem dL_law_538 : decode cL_law 538 = .ok (.iadd, 1) := by decide +kernel
theorem dL_law_539 : decode cL_law 539 = .ok (.iaload, 1) := by decide +kernel
theorem dL_law_540 : decode cL_law 540 = .ok (.aload_n 0, 1) := by decide +kernel
theorem dL_law_541 : decode cL_law 541 = .ok (.iload_n 3, 1) := by decide +kernel
theorem dL_law_542 : decode cL_law 542 = .ok (.iconst 3, 1) := by decide +kernel
theorem dL_law_543 : decode cL_law 543 = .ok (.iadd, 1) := by decide +kernel
theorem dL_law_544 : decode cL_law 544 = .ok (.iaload, 1) := by decide +kernel
theorem dL_law_545 : decode cL_law 545 = .ok (.aload_n 0, 1) := by decide +kernel
theorem dL_law_546 : decode cL_law 546 = .ok (.iload_n 3, 1) := by decide +kernel
theorem dL_law_547 : decode cL_law 547 = .ok (.iconst 4, 1) := by decide +kernel
theorem dL_law_548 : decode cL_law 548 = .ok (.iadd, 1) := by decide +kernel
theorem dL_law_549 : decode cL_law 549 = .ok (.iaload, 1) := by decide +kernel
theorem dL_law_550 : decode cL_law 550 = .ok (.invokevirtual 64, 3) := by decide +kernel
theorem dL_law_553 : decode cL_law 553 = .ok (.if_icmp .eq 759, 3) := by decide +kernel
theorem dL_law_556 : decode cL_law 556 = .ok (.iconst 0, 1) := by decide +kernel
theorem dL_law_557 : decode cL_law 557 = .ok (.ireturn, 1) := by decide +kernel
theorem dL_law_558 : decode cL_law 558 = .ok (.aload_n 1, 1) := by decide +kernel
theorem dL_law_559 : decode cL_law 559 = .ok (.aload_n 0, 1) := by decide +kernel
theorem dL_law_560 : decode cL_law 560 = .ok (.iload_n 3, 1) := by decide +kernel
theorem dL_law_561 : decode cL_law 561 = .ok (.iconst 1, 1) := by decide +kernel
theorem dL_law_562 : decode cL_law 562 = .ok (.iadd, 1) := by decide +kernel
theorem dL_law_563 : decode cL_law 563 = .ok (.iaload, 1) := by decide +kernel
theorem dL_law_564 : decode cL_law 564 = .ok (.aload_n 0, 1) := by decide +kernel
theorem dL_law_565 : decode cL_law 565 = .ok (.iload_n 3, 1) := by decide +kernel
theorem dL_law_566 : decode cL_law 566 = .ok (.iconst 2, 1) := by decide +kernel
theorem dL_law_567 : decode cL_law 567 = .ok (.iadd, 1) := by decide +kernel
theorem dL_law_568 : decode cL_law 568 = .ok (.iaload, 1) := by decide +kernel
theorem dL_law_569 : decode cL_law 569 = .ok (.aload_n 0, 1) := by decide +kernel
theorem dL_law_570 : decode cL_law 570 = .ok (.iload_n 3, 1) := by decide +kernel
theorem dL_law_571 : decode cL_law 571 = .ok (.iconst 3, 1) := by decide +kernel
theorem dL_law_572 : decode cL_law 572 = .ok (.iadd, 1) := by decide +kernel
theorem dL_law_573 : decode cL_law 573 = .ok (.iaload, 1) := by decide +kernel
theorem dL_law_574 : decode cL_law 574 = .ok (.invokevirtual 65, 3) := by decide +kernel
theorem dL_law_577 : decode cL_law 577 = .ok (.aload_n 2, 1) := by decide +kernel
theorem dL_law_578 : decode cL_law 578 = .ok (.aload_n 0, 1) := by decide +kernel
theorem dL_law_579 : decode cL_law 579 = .ok (.iload_n 3, 1) := by decide +kernel
theorem dL_law_580 : decode cL_law 580 = .ok (.iconst 1, 1) := by decide +kernel
theorem dL_law_581 : decode cL_law 581 = .ok (.iadd, 1) := by decide +kernel
theorem dL_law_582 : decode cL_law 582 = .ok (.iaload, 1) := by decide +kernel
theorem dL_law_583 : decode cL_law 583 = .ok (.aload_n 0, 1) := by decide +kernel
theorem dL_law_584 : decode cL_law 584 = .ok (.iload_n 3, 1) := by decide +kernel
theorem dL_law_585 : decode cL_law 585 = .ok (.iconst 2, 1) := by decide +kernel
theorem dL_law_586 : decode cL_law 586 = .ok (.iadd, 1) := by decide +kernel
theorem dL_law_587 : decode cL_law 587 = .ok (.iaload, 1) := by decide +kernel
theorem dL_law_588 : decode cL_law 588 = .ok (.aload_n 0, 1) := by decide +kernel
theorem dL_law_589 : decode cL_law 589 = .ok (.iload_n 3, 1) := by decide +kernel
theorem dL_law_590 : decode cL_law 590 = .ok (.iconst 3, 1) := by decide +kernel
theorem dL_law_591 : decode cL_law 591 = .ok (.iadd, 1) := by decide +kernel
theorem dL_law_592 : decode cL_law 592 = .ok (.iaload, 1) := by decide +kernel
theorem dL_law_593 : decode cL_law 593 = .ok (.invokevirtual 68, 3) := by decide +kernel
theorem dL_law_596 : decode cL_law 596 = .ok (.if_icmp .eq 716, 3) := by decide +kernel
theorem dL_law_599 : decode cL_law 599 = .ok (.iconst 0, 1) := by decide +kernel
theorem dL_law_600 : decode cL_law 600 = .ok (.ireturn, 1) := by decide +kernel
theorem dL_law_601 : decode cL_law 601 = .ok (.aload_n 1, 1) := by decide +kernel
theorem dL_law_602 : decode cL_law 602 = .ok (.aload_n 0, 1) := by decide +kernel
theorem dL_law_603 : decode cL_law 603 = .ok (.iload_n 3, 1) := by decide +kernel
theorem dL_law_604 : decode cL_law 604 = .ok (.iconst 1, 1) := by decide +kernel
theorem dL_law_605 : decode cL_law 605 = .ok (.iadd, 1) := by decide +kernel
theorem dL_law_606 : decode cL_law 606 = .ok (.iaload, 1) := by decide +kernel
theorem dL_law_607 : decode cL_law 607 = .ok (.invokevirtual 69, 3) := by decide +kernel
theorem dL_law_610 : decode cL_law 610 = .ok (.aload_n 2, 1) := by decide +kernel
theorem dL_law_611 : decode cL_law 611 = .ok (.aload_n 0, 1) := by decide +kernel
theorem dL_law_612 : decode cL_law 612 = .ok (.iload_n 3, 1) := by decide +kernel
theorem dL_law_613 : decode cL_law 613 = .ok (.iconst 1, 1) := by decide +kernel
theorem dL_law_614 : decode cL_law 614 = .ok (.iadd, 1) := by decide +kernel
theorem dL_law_615 : decode cL_law 615 = .ok (.iaload, 1) := by decide +kernel
theorem dL_law_616 : decode cL_law 616 = .ok (.invokevirtual 72, 3) := by decide +kernel
theorem dL_law_619 : decode cL_law 619 = .ok (.if_icmp .eq 693, 3) := by decide +kernel
theorem dL_law_622 : decode cL_law 622 = .ok (.iconst 0, 1) := by decide +kernel
theorem dL_law_623 : decode cL_law 623 = .ok (.ireturn, 1) := by decide +kernel
theorem dL_law_624 : decode cL_law 624 = .ok (.aload_n 1, 1) := by decide +kernel
theorem dL_law_625 : decode cL_law 625 = .ok (.aload_n 0, 1) := by decide +kernel
theorem dL_law_626 : decode cL_law 626 = .ok (.iload_n 3, 1) := by decide +kernel
theorem dL_law_627 : decode cL_law 627 = .ok (.iconst 1, 1) := by decide +kernel
theorem dL_law_628 : decode cL_law 628 = .ok (.iadd, 1) := by decide +kernel
theorem dL_law_629 : decode cL_law 629 = .ok (.iaload, 1) := by decide +kernel
theorem dL_law_630 : decode cL_law 630 = .ok (.invokevirtual 73, 3) := by decide +kernel
theorem dL_law_633 : decode cL_law 633 = .ok (.aload_n 2, 1) := by decide +kernel
theorem dL_law_634 : decode cL_law 634 = .ok (.aload_n 0, 1) := by decide +kernel
theorem dL_law_635 : decode cL_law 635 = .ok (.iload_n 3, 1) := by decide +kernel
theorem dL_law_636 : decode cL_law 636 = .ok (.iconst 1, 1) := by decide +kernel
theorem dL_law_637 : decode cL_law 637 = .ok (.iadd, 1) := by decide +kernel
theorem dL_law_638 : decode cL_law 638 = .ok (.iaload, 1) := by decide +kernel
theorem dL_law_639 : decode cL_law 639 = .ok (.invokevirtual 76, 3) := by decide +kernel
theorem dL_law_642 : decode cL_law 642 = .ok (.if_icmp .eq 670, 3) := by decide +kernel
theorem dL_law_645 : decode cL_law 645 = .ok (.iconst 0, 1) := by decide +kernel
theorem dL_law_646 : decode cL_law 646 = .ok (.ireturn, 1) := by decide +kernel
theorem dL_law_647 : decode cL_law 647 = .ok (.aload_n 1, 1) := by decide +kernel
theorem dL_law_648 : decode cL_law 648 = .ok (.aload_n 0, 1) := by decide +kernel
theorem dL_law_649 : decode cL_law 649 = .ok (.iload_n 3, 1) := by decide +kernel
theorem dL_law_650 : decode cL_law 650 = .ok (.iconst 1, 1) := by decide +kernel
theorem dL_law_651 : decode cL_law 651 = .ok (.iadd, 1) := by decide +kernel
theorem dL_law_652 : decode cL_law 652 = .ok (.iaload, 1) := by decide +kernel
theorem dL_law_653 : decode cL_law 653 = .ok (.invokevirtual 77, 3) := by decide +kernel
theorem dL_law_656 : decode cL_law 656 = .ok (.aload_n 2, 1) := by decide +kernel
theorem dL_law_657 : decode cL_law 657 = .ok (.aload_n 0, 1) := by decide +kernel
theorem dL_law_658 : decode cL_law 658 = .ok (.iload_n 3, 1) := by decide +kernel
theorem dL_law_659 : decode cL_law 659 = .ok (.iconst 1, 1) := by decide +kernel
theorem dL_law_660 : decode cL_law 660 = .ok (.iadd, 1) := by decide +kernel
theorem dL_law_661 : decode cL_law 661 = .ok (.iaload, 1) := by decide +kernel
theorem dL_law_662 : decode cL_law 662 = .ok (.invokevirtual 80, 3) := by decide +kernel
theorem dL_law_665 : decode cL_law 665 = .ok (.if_icmp .eq 647, 3) := by decide +kernel
theorem dL_law_668 : decode cL_law 668 = .ok (.iconst 0, 1) := by decide +kernel
theorem dL_law_669 : decode cL_law 669 = .ok (.ireturn, 1) := by decide +kernel
theorem dL_law_670 : decode cL_law 670 = .ok (.aload_n 1, 1) := by decide +kernel
theorem dL_law_671 : decode cL_law 671 = .ok (.invokevirtual 81, 3) := by decide +kernel
theorem dL_law_674 : decode cL_law 674 = .ok (.aload_n 2, 1) := by decide +kernel
theorem dL_law_675 : decode cL_law 675 = .ok (.invokevirtual 85, 3) := by decide +kernel
theorem dL_law_678 : decode cL_law 678 = .ok (.if_icmp .eq 634, 3) := by decide +kernel
theorem dL_law_681 : decode cL_law 681 = .ok (.iconst 0, 1) := by decide +kernel
theorem dL_law_682 : decode cL_law 682 = .ok (.ireturn, 1) := by decide +kernel
theorem dL_law_683 : decode cL_law 683 = .ok (.aload_n 1, 1) := by decide +kernel
theorem dL_law_684 : decode cL_law 684 = .ok (.aload_n 0, 1) := by decide +kernel
theorem dL_law_685 : decode cL_law 685 = .ok (.iload_n 3, 1) := by decide +kernel
theorem dL_law_686 : decode cL_law 686 = .ok (.iconst 1, 1) := by decide +kernel
theorem dL_law_687 : decode cL_law 687 = .ok (.iadd, 1) := by decide +kernel
theorem dL_law_688 : decode cL_law 688 = .ok (.iaload, 1) := by decide +kernel
theorem dL_law_689 : decode cL_law 689 = .ok (.aload_n 0, 1) := by decide +kernel
theorem dL_law_690 : decode cL_law 690 = .ok (.iload_n 3, 1) := by decide +kernel
theorem dL_law_691 : decode cL_law 691 = .ok (.iconst 2, 1) := by decide +kernel
theorem dL_law_692 : decode cL_law 692 = .ok (.iadd, 1) := by decide +kernel
theorem dL_law_693 : decode cL_law 693 = .ok (.iaload, 1) := by decide +kernel
theorem dL_law_694 : decode cL_law 694 = .ok (.invokevirtual 86, 3) := by decide +kernel
theorem dL_law_697 : decode cL_law 697 = .ok (.aload_n 2, 1) := by decide +kernel
theorem dL_law_698 : decode cL_law 698 = .ok (.aload_n 0, 1) := by decide +kernel
theorem dL_law_699 : decode cL_law 699 = .ok (.iload_n 3, 1) := by decide +kernel
theorem dL_law_700 : decode cL_law 700 = .ok (.iconst 1, 1) := by decide +kernel
theorem dL_law_701 : decode cL_law 701 = .ok (.iadd, 1) := by decide +kernel
theorem dL_law_702 : decode cL_law 702 = .ok (.iaload, 1) := by decide +kernel
theorem dL_law_703 : decode cL_law 703 = .ok (.aload_n 0, 1) := by decide +kernel
theorem dL_law_704 : decode cL_law 704 = .ok (.iload_n 3, 1) := by decide +kernel
theorem dL_law_705 : decode cL_law 705 = .ok (.iconst 2, 1) := by decide +kernel
theorem dL_law_706 : decode cL_law 706 = .ok (.iadd, 1) := by decide +kernel
theorem dL_law_707 : decode cL_law 707 = .ok (.iaload, 1) := by decide +kernel
theorem dL_law_708 : decode cL_law 708 = .ok (.invokevirtual 89, 3) := by decide +kernel
theorem dL_law_711 : decode cL_law 711 = .ok (.if_icmp .eq 601, 3) := by decide +kernel
theorem dL_law_714 : decode cL_law 714 = .ok (.iconst 0, 1) := by decide +kernel
theorem dL_law_715 : decode cL_law 715 = .ok (.ireturn, 1) := by decide +kernel
theorem dL_law_716 : decode cL_law 716 = .ok (.aload_n 1, 1) := by decide +kernel
theorem dL_law_717 : decode cL_law 717 = .ok (.aload_n 0, 1) := by decide +kernel
theorem dL_law_718 : decode cL_law 718 = .ok (.iload_n 3, 1) := by decide +kernel
theorem dL_law_719 : decode cL_law 719 = .ok (.iconst 1, 1) := by decide +kernel
theorem dL_law_720 : decode cL_law 720 = .ok (.iadd, 1) := by decide +kernel
theorem dL_law_721 : decode cL_law 721 = .ok (.iaload, 1) := by decide +kernel
theorem dL_law_722 : decode cL_law 722 = .ok (.invokevirtual 90, 3) := by decide +kernel
theorem dL_law_725 : decode cL_law 725 = .ok (.aload_n 2, 1) := by decide +kernel
theorem dL_law_726 : decode cL_law 726 = .ok (.aload_n 0, 1) := by decide +kernel
theorem dL_law_727 : decode cL_law 727 = .ok (.iload_n 3, 1) := by decide +kernel
theorem dL_law_728 : decode cL_law 728 = .ok (.iconst 1, 1) := by decide +kernel
theorem dL_law_729 : decode cL_law 729 = .ok (.iadd, 1) := by decide +kernel
theorem dL_law_730 : decode cL_law 730 = .ok (.iaload, 1) := by decide +kernel
theorem dL_law_731 : decode cL_law 731 = .ok (.invokevirtual 93, 3) := by decide +kernel
theorem dL_law_734 : decode cL_law 734 = .ok (.if_icmp .eq 578, 3) := by decide +kernel
theorem dL_law_737 : decode cL_law 737 = .ok (.iconst 0, 1) := by decide +kernel
theorem dL_law_738 : decode cL_law 738 = .ok (.ireturn, 1) := by decide +kernel
theorem dL_law_739 : decode cL_law 739 = .ok (.aload_n 1, 1) := by decide +kernel
theorem dL_law_740 : decode cL_law 740 = .ok (.aload_n 0, 1) := by decide +kernel
theorem dL_law_741 : decode cL_law 741 = .ok (.iload_n 3, 1) := by decide +kernel
theorem dL_law_742 : decode cL_law 742 = .ok (.iconst 1, 1) := by decide +kernel
theorem dL_law_743 : decode cL_law 743 = .ok (.iadd, 1) := by decide +kernel
theorem dL_law_744 : decode cL_law 744 = .ok (.iaload, 1) := by decide +kernel
theorem dL_law_745 : decode cL_law 745 = .ok (.aload_n 0, 1) := by decide +kernel
theorem dL_law_746 : decode cL_law 746 = .ok (.iload_n 3, 1) := by decide +kernel
theorem dL_law_747 : decode cL_law 747 = .ok (.iconst 2, 1) := by decide +kernel
theorem dL_law_748 : decode cL_law 748 = .ok (.iadd, 1) := by decide +kernel
theorem dL_law_749 : decode cL_law 749 = .ok (.iaload, 1) := by decide +kernel
theorem dL_law_750 : decode cL_law 750 = .ok (.invokevirtual 94, 3) := by decide +kernel
theorem dL_law_753 : decode cL_law 753 = .ok (.aload_n 2, 1) := by decide +kernel
theorem dL_law_754 : decode cL_law 754 = .ok (.aload_n 0, 1) := by decide +kernel
theorem dL_law_755 : decode cL_law 755 = .ok (.iload_n 3, 1) := by decide +kernel
theorem dL_law_756 : decode cL_law 756 = .ok (.iconst 1, 1) := by decide +kernel
theorem dL_law_757 : decode cL_law 757 = .ok (.iadd, 1) := by decide +kernel
theorem dL_law_758 : decode cL_law 758 = .ok (.iaload, 1) := by decide +kernel
theorem dL_law_759 : decode cL_law 759 = .ok (.aload_n 0, 1) := by decide +kernel
theorem dL_law_760 : decode cL_law 760 = .ok (.iload_n 3, 1) := by decide +kernel
theorem dL_law_761 : decode cL_law 761 = .ok (.iconst 2, 1) := by decide +kernel
theorem dL_law_762 : decode cL_law 762 = .ok (.iadd, 1) := by decide +kernel
theorem dL_law_763 : decode cL_law 763 = .ok (.iaload, 1) := by decide +kernel
theorem dL_law_764 : decode cL_law 764 = .ok (.invokevirtual 97, 3) := by decide +kernel
theorem dL_law_767 : decode cL_law 767 = .ok (.if_icmp .eq 545, 3) := by decide +kernel
theorem dL_law_770 : decode cL_law 770 = .ok (.iconst 0, 1) := by decide +kernel
theorem dL_law_771 : decode cL_law 771 = .ok (.ireturn, 1) := by decide +kernel
theorem dL_law_772 : decode cL_law 772 = .ok (.aload_n 1, 1) := by decide +kernel
theorem dL_law_773 : decode cL_law 773 = .ok (.aload_n 0, 1) := by decide +kernel
theorem dL_law_774 : decode cL_law 774 = .ok (.iload_n 3, 1) := by decide +kernel
theorem dL_law_775 : decode cL_law 775 = .ok (.iconst 1, 1) := by decide +kernel
theorem dL_law_776 : decode cL_law 776 = .ok (.iadd, 1) := by decide +kernel
theorem dL_law_777 : decode cL_law 777 = .ok (.iaload, 1) := by decide +kernel
theorem dL_law_778 : decode cL_law 778 = .ok (.aload_n 0, 1) := by decide +kernel
theorem dL_law_779 : decode cL_law 779 = .ok (.iload_n 3, 1) := by decide +kernel
theorem dL_law_780 : decode cL_law 780 = .ok (.iconst 2, 1) := by decide +kernel
theorem dL_law_781 : decode cL_law 781 = .ok (.iadd, 1) := by decide +kernel
theorem dL_law_782 : decode cL_law 782 = .ok (.iaload, 1) := by decide +kernel
theorem dL_law_783 : decode cL_law 783 = .ok (.invokevirtual 98, 3) := by decide +kernel
theorem dL_law_786 : decode cL_law 786 = .ok (.aload_n 2, 1) := by decide +kernel
theorem dL_law_787 : decode cL_law 787 = .ok (.aload_n 0, 1) := by decide +kernel
theorem dL_law_788 : decode cL_law 788 = .ok (.iload_n 3, 1) := by decide +kernel
theorem dL_law_789 : decode cL_law 789 = .ok (.iconst 1, 1) := by decide +kernel
theorem dL_law_790 : decode cL_law 790 = .ok (.iadd, 1) := by decide +kernel
theorem dL_law_791 : decode cL_law 791 = .ok (.iaload, 1) := by decide +kernel
theorem dL_law_792 : decode cL_law 792 = .ok (.aload_n 0, 1) := by decide +kernel
theorem dL_law_793 : decode cL_law 793 = .ok (.iload_n 3, 1) := by decide +kernel
theorem dL_law_794 : decode cL_law 794 = .ok (.iconst 2, 1) := by decide +kernel
theorem dL_law_795 : decode cL_law 795 = .ok (.iadd, 1) := by decide +kernel
theorem dL_law_796 : decode cL_law 796 = .ok (.iaload, 1) := by decide +kernel
theorem dL_law_797 : decode cL_law 797 = .ok (.invokevirtual 101, 3) := by decide +kernel
theorem dL_law_800 : decode cL_law 800 = .ok (.if_icmp .eq 512, 3) := by decide +kernel
theorem dL_law_803 : decode cL_law 803 = .ok (.iconst 0, 1) := by decide +kernel
theorem dL_law_804 : decode cL_law 804 = .ok (.ireturn, 1) := by decide +kernel
theorem dL_law_805 : decode cL_law 805 = .ok (.aload_n 1, 1) := by decide +kernel
theorem dL_law_806 : decode cL_law 806 = .ok (.aload_n 0, 1) := by decide +kernel
theorem dL_law_807 : decode cL_law 807 = .ok (.iload_n 3, 1) := by decide +kernel
theorem dL_law_808 : decode cL_law 808 = .ok (.iconst 1, 1) := by decide +kernel
theorem dL_law_809 : decode cL_law 809 = .ok (.iadd, 1) := by decide +kernel
theorem dL_law_810 : decode cL_law 810 = .ok (.iaload, 1) := by decide +kernel
theorem dL_law_811 : decode cL_law 811 = .ok (.aload_n 0, 1) := by decide +kernel
theorem dL_law_812 : decode cL_law 812 = .ok (.iload_n 3, 1) := by decide +kernel
theorem dL_law_813 : decode cL_law 813 = .ok (.iconst 2, 1) := by decide +kernel
theorem dL_law_814 : decode cL_law 814 = .ok (.iadd, 1) := by decide +kernel
theorem dL_law_815 : decode cL_law 815 = .ok (.iaload, 1) := by decide +kernel
theorem dL_law_816 : decode cL_law 816 = .ok (.aload_n 0, 1) := by decide +kernel
theorem dL_law_817 : decode cL_law 817 = .ok (.iload_n 3, 1) := by decide +kernel
theorem dL_law_818 : decode cL_law 818 = .ok (.iconst 3, 1) := by decide +kernel
theorem dL_law_819 : decode cL_law 819 = .ok (.iadd, 1) := by decide +kernel
theorem dL_law_820 : decode cL_law 820 = .ok (.iaload, 1) := by decide +kernel
theorem dL_law_821 : decode cL_law 821 = .ok (.aload_n 0, 1) := by decide +kernel
theorem dL_law_822 : decode cL_law 822 = .ok (.iload_n 3, 1) := by decide +kernel
theorem dL_law_823 : decode cL_law 823 = .ok (.iconst 4, 1) := by decide +kernel
theorem dL_law_824 : decode cL_law 824 = .ok (.iadd, 1) := by decide +kernel
theorem dL_law_825 : decode cL_law 825 = .ok (.iaload, 1) := by decide +kernel
theorem dL_law_826 : decode cL_law 826 = .ok (.invokevirtual 102, 3) := by decide +kernel
theorem dL_law_829 : decode cL_law 829 = .ok (.aload_n 2, 1) := by decide +kernel
theorem dL_law_830 : decode cL_law 830 = .ok (.aload_n 0, 1) := by decide +kernel
theorem dL_law_831 : decode cL_law 831 = .ok (.iload_n 3, 1) := by decide +kernel
theorem dL_law_832 : decode cL_law 832 = .ok (.iconst 1, 1) := by decide +kernel
theorem dL_law_833 : decode cL_law 833 = .ok (.iadd, 1) := by decide +kernel
theorem dL_law_834 : decode cL_law 834 = .ok (.iaload, 1) := by decide +kernel
theorem dL_law_835 : decode cL_law 835 = .ok (.aload_n 0, 1) := by decide +kernel
theorem dL_law_836 : decode cL_law 836 = .ok (.iload_n 3, 1) := by decide +kernel
theorem dL_law_837 : decode cL_law 837 = .ok (.iconst 2, 1) := by decide +kernel
theorem dL_law_838 : decode cL_law 838 = .ok (.iadd, 1) := by decide +kernel
theorem dL_law_839 : decode cL_law 839 = .ok (.iaload, 1) := by decide +kernel
theorem dL_law_840 : decode cL_law 840 = .ok (.aload_n 0, 1) := by decide +kernel
theorem dL_law_841 : decode cL_law 841 = .ok (.iload_n 3, 1) := by decide +kernel
theorem dL_law_842 : decode cL_law 842 = .ok (.iconst 3, 1) := by decide +kernel
theorem dL_law_843 : decode cL_law 843 = .ok (.iadd, 1) := by decide +kernel
theorem dL_law_844 : decode cL_law 844 = .ok (.iaload, 1) := by decide +kernel
theorem dL_law_845 : decode cL_law 845 = .ok (.aload_n 0, 1) := by decide +kernel
theorem dL_law_846 : decode cL_law 846 = .ok (.iload_n 3, 1) := by decide +kernel
theorem dL_law_847 : decode cL_law 847 = .ok (.iconst 4, 1) := by decide +kernel
theorem dL_law_848 : decode cL_law 848 = .ok (.iadd, 1) := by decide +kernel
theorem dL_law_849 : decode cL_law 849 = .ok (.iaload, 1) := by decide +kernel
theorem dL_law_850 : decode cL_law 850 = .ok (.invokevirtual 105, 3) := by decide +kernel
theorem dL_law_853 : decode cL_law 853 = .ok (.if_icmp .eq 459, 3) := by decide +kernel
theorem dL_law_856 : decode cL_law 856 = .ok (.iconst 0, 1) := by decide +kernel
theorem dL_law_857 : decode cL_law 857 = .ok (.ireturn, 1) := by decide +kernel
theorem dL_law_858 : decode cL_law 858 = .ok (.aload_n 1, 1) := by decide +kernel
theorem dL_law_859 : decode cL_law 859 = .ok (.invokevirtual 106, 3) := by decide +kernel
theorem dL_law_862 : decode cL_law 862 = .ok (.aload_n 2, 1) := by decide +kernel
theorem dL_law_863 : decode cL_law 863 = .ok (.invokevirtual 109, 3) := by decide +kernel
theorem dL_law_866 : decode cL_law 866 = .ok (.if_icmp .eq 446, 3) := by decide +kernel
theorem dL_law_869 : decode cL_law 869 = .ok (.iconst 0, 1) := by decide +kernel
theorem dL_law_870 : decode cL_law 870 = .ok (.ireturn, 1) := by decide +kernel
theorem dL_law_871 : decode cL_law 871 = .ok (.aload_n 1, 1) := by decide +kernel
theorem dL_law_872 : decode cL_law 872 = .ok (.invokevirtual 110, 3) := by decide +kernel
theorem dL_law_875 : decode cL_law 875 = .ok (.aload_n 2, 1) := by decide +kernel
theorem dL_law_876 : decode cL_law 876 = .ok (.invokevirtual 113, 3) := by decide +kernel
theorem dL_law_879 : decode cL_law 879 = .ok (.if_icmp .eq 433, 3) := by decide +kernel
theorem dL_law_882 : decode cL_law 882 = .ok (.iconst 0, 1) := by decide +kernel
theorem dL_law_883 : decode cL_law 883 = .ok (.ireturn, 1) := by decide +kernel
theorem dL_law_884 : decode cL_law 884 = .ok (.aload_n 1, 1) := by decide +kernel
theorem dL_law_885 : decode cL_law 885 = .ok (.aload_n 0, 1) := by decide +kernel
theorem dL_law_886 : decode cL_law 886 = .ok (.iload_n 3, 1) := by decide +kernel
theorem dL_law_887 : decode cL_law 887 = .ok (.iconst 1, 1) := by decide +kernel
theorem dL_law_888 : decode cL_law 888 = .ok (.iadd, 1) := by decide +kernel
theorem dL_law_889 : decode cL_law 889 = .ok (.iaload, 1) := by decide +kernel
theorem dL_law_890 : decode cL_law 890 = .ok (.aload_n 0, 1) := by decide +kernel
theorem dL_law_891 : decode cL_law 891 = .ok (.iload_n 3, 1) := by decide +kernel
theorem dL_law_892 : decode cL_law 892 = .ok (.iconst 2, 1) := by decide +kernel
theorem dL_law_893 : decode cL_law 893 = .ok (.iadd, 1) := by decide +kernel
theorem dL_law_894 : decode cL_law 894 = .ok (.iaload, 1) := by decide +kernel
theorem dL_law_895 : decode cL_law 895 = .ok (.invokevirtual 114, 3) := by decide +kernel
theorem dL_law_898 : decode cL_law 898 = .ok (.aload_n 2, 1) := by decide +kernel
theorem dL_law_899 : decode cL_law 899 = .ok (.aload_n 0, 1) := by decide +kernel
theorem dL_law_900 : decode cL_law 900 = .ok (.iload_n 3, 1) := by decide +kernel
theorem dL_law_901 : decode cL_law 901 = .ok (.iconst 1, 1) := by decide +kernel
theorem dL_law_902 : decode cL_law 902 = .ok (.iadd, 1) := by decide +kernel
theorem dL_law_903 : decode cL_law 903 = .ok (.iaload, 1) := by decide +kernel
theorem dL_law_904 : decode cL_law 904 = .ok (.aload_n 0, 1) := by decide +kernel
theorem dL_law_905 : decode cL_law 905 = .ok (.iload_n 3, 1) := by decide +kernel
theorem dL_law_906 : decode cL_law 906 = .ok (.iconst 2, 1) := by decide +kernel
theorem dL_law_907 : decode cL_law 907 = .ok (.iadd, 1) := by decide +kernel
theorem dL_law_908 : decode cL_law 908 = .ok (.iaload, 1) := by decide +kernel
theorem dL_law_909 : decode cL_law 909 = .ok (.invokevirtual 117, 3) := by decide +kernel
theorem dL_law_912 : decode cL_law 912 = .ok (.if_icmp .eq 400, 3) := by decide +kernel
theorem dL_law_915 : decode cL_law 915 = .ok (.iconst 0, 1) := by decide +kernel
theorem dL_law_916 : decode cL_law 916 = .ok (.ireturn, 1) := by decide +kernel
theorem dL_law_917 : decode cL_law 917 = .ok (.aload_n 1, 1) := by decide +kernel
theorem dL_law_918 : decode cL_law 918 = .ok (.aload_n 0, 1) := by decide +kernel
theorem dL_law_919 : decode cL_law 919 = .ok (.iload_n 3, 1) := by decide +kernel
theorem dL_law_920 : decode cL_law 920 = .ok (.iconst 1, 1) := by decide +kernel
theorem dL_law_921 : decode cL_law 921 = .ok (.iadd, 1) := by decide +kernel
theorem dL_law_922 : decode cL_law 922 = .ok (.iaload, 1) := by decide +kernel
theorem dL_law_923 : decode cL_law 923 = .ok (.invokevirtual 118, 3) := by decide +kernel
theorem dL_law_926 : decode cL_law 926 = .ok (.aload_n 2, 1) := by decide +kernel
theorem dL_law_927 : decode cL_law 927 = .ok (.aload_n 0, 1) := by decide +kernel
theorem dL_law_928 : decode cL_law 928 = .ok (.iload_n 3, 1) := by decide +kernel
theorem dL_law_929 : decode cL_law 929 = .ok (.iconst 1, 1) := by decide +kernel
theorem dL_law_930 : decode cL_law 930 = .ok (.iadd, 1) := by decide +kernel
theorem dL_law_931 : decode cL_law 931 = .ok (.iaload, 1) := by decide +kernel
theorem dL_law_932 : decode cL_law 932 = .ok (.invokevirtual 121, 3) := by decide +kernel
theorem dL_law_935 : decode cL_law 935 = .ok (.if_icmp .eq 377, 3) := by decide +kernel
theorem dL_law_938 : decode cL_law 938 = .ok (.iconst 0, 1) := by decide +kernel
theorem dL_law_939 : decode cL_law 939 = .ok (.ireturn, 1) := by decide +kernel
theorem dL_law_940 : decode cL_law 940 = .ok (.aload_n 1, 1) := by decide +kernel
theorem dL_law_941 : decode cL_law 941 = .ok (.aload_n 0, 1) := by decide +kernel
theorem dL_law_942 : decode cL_law 942 = .ok (.iload_n 3, 1) := by decide +kernel
theorem dL_law_943 : decode cL_law 943 = .ok (.iconst 1, 1) := by decide +kernel
theorem dL_law_944 : decode cL_law 944 = .ok (.iadd, 1) := by decide +kernel
theorem dL_law_945 : decode cL_law 945 = .ok (.iaload, 1) := by decide +kernel
theorem dL_law_946 : decode cL_law 946 = .ok (.aload_n 0, 1) := by decide +kernel
theorem dL_law_947 : decode cL_law 947 = .ok (.iload_n 3, 1) := by decide +kernel
theorem dL_law_948 : decode cL_law 948 = .ok (.iconst 2, 1) := by decide +kernel
theorem dL_law_949 : decode cL_law 949 = .ok (.iadd, 1) := by decide +kernel
theorem dL_law_950 : decode cL_law 950 = .ok (.iaload, 1) := by decide +kernel
theorem dL_law_951 : decode cL_law 951 = .ok (.invokevirtual 122, 3) := by decide +kernel
theorem dL_law_954 : decode cL_law 954 = .ok (.aload_n 2, 1) := by decide +kernel
theorem dL_law_955 : decode cL_law 955 = .ok (.aload_n 0, 1) := by decide +kernel
theorem dL_law_956 : decode cL_law 956 = .ok (.iload_n 3, 1) := by decide +kernel
theorem dL_law_957 : decode cL_law 957 = .ok (.iconst 1, 1) := by decide +kernel
theorem dL_law_958 : decode cL_law 958 = .ok (.iadd, 1) := by decide +kernel
theorem dL_law_959 : decode cL_law 959 = .ok (.iaload, 1) := by decide +kernel
theorem dL_law_960 : decode cL_law 960 = .ok (.aload_n 0, 1) := by decide +kernel
theorem dL_law_961 : decode cL_law 961 = .ok (.iload_n 3, 1) := by decide +kernel
theorem dL_law_962 : decode cL_law 962 = .ok (.iconst 2, 1) := by decide +kernel
theorem dL_law_963 : decode cL_law 963 = .ok (.iadd, 1) := by decide +kernel
theorem dL_law_964 : decode cL_law 964 = .ok (.iaload, 1) := by decide +kernel
theorem dL_law_965 : decode cL_law 965 = .ok (.invokevirtual 126, 3) := by decide +kernel
theorem dL_law_968 : decode cL_law 968 = .ok (.lcmp, 1) := by decide +kernel
theorem dL_law_969 : decode cL_law 969 = .ok (.ifCond .eq 343, 3) := by decide +kernel
theorem dL_law_972 : decode cL_law 972 = .ok (.iconst 0, 1) := by decide +kernel
theorem dL_law_973 : decode cL_law 973 = .ok (.ireturn, 1) := by decide +kernel
theorem dL_law_974 : decode cL_law 974 = .ok (.aload_n 1, 1) := by decide +kernel
theorem dL_law_975 : decode cL_law 975 = .ok (.aload_n 0, 1) := by decide +kernel
theorem dL_law_976 : decode cL_law 976 = .ok (.iload_n 3, 1) := by decide +kernel
theorem dL_law_977 : decode cL_law 977 = .ok (.iconst 1, 1) := by decide +kernel
theorem dL_law_978 : decode cL_law 978 = .ok (.iadd, 1) := by decide +kernel
theorem dL_law_979 : decode cL_law 979 = .ok (.iaload, 1) := by decide +kernel
theorem dL_law_980 : decode cL_law 980 = .ok (.aload_n 0, 1) := by decide +kernel
theorem dL_law_981 : decode cL_law 981 = .ok (.iload_n 3, 1) := by decide +kernel
theorem dL_law_982 : decode cL_law 982 = .ok (.iconst 2, 1) := by decide +kernel
theorem dL_law_983 : decode cL_law 983 = .ok (.iadd, 1) := by decide +kernel
theorem dL_law_984 : decode cL_law 984 = .ok (.iaload, 1) := by decide +kernel
theorem dL_law_985 : decode cL_law 985 = .ok (.aload_n 0, 1) := by decide +kernel
theorem dL_law_986 : decode cL_law 986 = .ok (.iload_n 3, 1) := by decide +kernel
theorem dL_law_987 : decode cL_law 987 = .ok (.iconst 3, 1) := by decide +kernel
theorem dL_law_988 : decode cL_law 988 = .ok (.iadd, 1) := by decide +kernel
theorem dL_law_989 : decode cL_law 989 = .ok (.iaload, 1) := by decide +kernel
theorem dL_law_990 : decode cL_law 990 = .ok (.invokevirtual 127, 3) := by decide +kernel
theorem dL_law_993 : decode cL_law 993 = .ok (.aload_n 2, 1) := by decide +kernel
theorem dL_law_994 : decode cL_law 994 = .ok (.aload_n 0, 1) := by decide +kernel
theorem dL_law_995 : decode cL_law 995 = .ok (.iload_n 3, 1) := by decide +kernel
theorem dL_law_996 : decode cL_law 996 = .ok (.iconst 1, 1) := by decide +kernel
theorem dL_law_997 : decode cL_law 997 = .ok (.iadd, 1) := by decide +kernel
theorem dL_law_998 : decode cL_law 998 = .ok (.iaload, 1) := by decide +kernel
theorem dL_law_999 : decode cL_law 999 = .ok (.aload_n 0, 1) := by decide +kernel
theorem dL_law_1000 : decode cL_law 1000 = .ok (.iload_n 3, 1) := by decide +kernel
theorem dL_law_1001 : decode cL_law 1001 = .ok (.iconst 2, 1) := by decide +kernel
theorem dL_law_1002 : decode cL_law 1002 = .ok (.iadd, 1) := by decide +kernel
theorem dL_law_1003 : decode cL_law 1003 = .ok (.iaload, 1) := by decide +kernel
theorem dL_law_1004 : decode cL_law 1004 = .ok (.aload_n 0, 1) := by decide +kernel
theorem dL_law_1005 : decode cL_law 1005 = .ok (.iload_n 3, 1) := by decide +kernel
theorem dL_law_1006 : decode cL_law 1006 = .ok (.iconst 3, 1) := by decide +kernel
theorem dL_law_1007 : decode cL_law 1007 = .ok (.iadd, 1) := by decide +kernel
theorem dL_law_1008 : decode cL_law 1008 = .ok (.iaload, 1) := by decide +kernel
theorem dL_law_1009 : decode cL_law 1009 = .ok (.invokevirtual 130, 3) := by decide +kernel
theorem dL_law_1012 : decode cL_law 1012 = .ok (.if_icmp .eq 300, 3) := by decide +kernel
theorem dL_law_1015 : decode cL_law 1015 = .ok (.iconst 0, 1) := by decide +kernel
theorem dL_law_1016 : decode cL_law 1016 = .ok (.ireturn, 1) := by decide +kernel
theorem dL_law_1017 : decode cL_law 1017 = .ok (.aload_n 1, 1) := by decide +kernel
theorem dL_law_1018 : decode cL_law 1018 = .ok (.aload_n 0, 1) := by decide +kernel
theorem dL_law_1019 : decode cL_law 1019 = .ok (.iload_n 3, 1) := by decide +kernel
theorem dL_law_1020 : decode cL_law 1020 = .ok (.iconst 1, 1) := by decide +kernel
theorem dL_law_1021 : decode cL_law 1021 = .ok (.iadd, 1) := by decide +kernel
theorem dL_law_1022 : decode cL_law 1022 = .ok (.iaload, 1) := by decide +kernel
theorem dL_law_1023 : decode cL_law 1023 = .ok (.aload_n 0, 1) := by decide +kernel
theorem dL_law_1024 : decode cL_law 1024 = .ok (.iload_n 3, 1) := by decide +kernel
theorem dL_law_1025 : decode cL_law 1025 = .ok (.iconst 2, 1) := by decide +kernel
theorem dL_law_1026 : decode cL_law 1026 = .ok (.iadd, 1) := by decide +kernel
theorem dL_law_1027 : decode cL_law 1027 = .ok (.iaload, 1) := by decide +kernel
theorem dL_law_1028 : decode cL_law 1028 = .ok (.aload_n 0, 1) := by decide +kernel
theorem dL_law_1029 : decode cL_law 1029 = .ok (.iload_n 3, 1) := by decide +kernel
theorem dL_law_1030 : decode cL_law 1030 = .ok (.iconst 3, 1) := by decide +kernel
theorem dL_law_1031 : decode cL_law 1031 = .ok (.iadd, 1) := by decide +kernel
theorem dL_law_1032 : decode cL_law 1032 = .ok (.iaload, 1) := by decide +kernel
theorem dL_law_1033 : decode cL_law 1033 = .ok (.invokevirtual 131, 3) := by decide +kernel
theorem dL_law_1036 : decode cL_law 1036 = .ok (.aload_n 2, 1) := by decide +kernel
theorem dL_law_1037 : decode cL_law 1037 = .ok (.aload_n 0, 1) := by decide +kernel
theorem dL_law_1038 : decode cL_law 1038 = .ok (.iload_n 3, 1) := by decide +kernel
theorem dL_law_1039 : decode cL_law 1039 = .ok (.iconst 1, 1) := by decide +kernel
theorem dL_law_1040 : decode cL_law 1040 = .ok (.iadd, 1) := by decide +kernel
theorem dL_law_1041 : decode cL_law 1041 = .ok (.iaload, 1) := by decide +kernel
theorem dL_law_1042 : decode cL_law 1042 = .ok (.aload_n 0, 1) := by decide +kernel
theorem dL_law_1043 : decode cL_law 1043 = .ok (.iload_n 3, 1) := by decide +kernel
theorem dL_law_1044 : decode cL_law 1044 = .ok (.iconst 2, 1) := by decide +kernel
theorem dL_law_1045 : decode cL_law 1045 = .ok (.iadd, 1) := by decide +kernel
theorem dL_law_1046 : decode cL_law 1046 = .ok (.iaload, 1) := by decide +kernel
theorem dL_law_1047 : decode cL_law 1047 = .ok (.aload_n 0, 1) := by decide +kernel
theorem dL_law_1048 : decode cL_law 1048 = .ok (.iload_n 3, 1) := by decide +kernel
theorem dL_law_1049 : decode cL_law 1049 = .ok (.iconst 3, 1) := by decide +kernel
theorem dL_law_1050 : decode cL_law 1050 = .ok (.iadd, 1) := by decide +kernel
theorem dL_law_1051 : decode cL_law 1051 = .ok (.iaload, 1) := by decide +kernel
theorem dL_law_1052 : decode cL_law 1052 = .ok (.invokevirtual 134, 3) := by decide +kernel
theorem dL_law_1055 : decode cL_law 1055 = .ok (.if_icmp .eq 257, 3) := by decide +kernel
theorem dL_law_1058 : decode cL_law 1058 = .ok (.iconst 0, 1) := by decide +kernel
theorem dL_law_1059 : decode cL_law 1059 = .ok (.ireturn, 1) := by decide +kernel
theorem dL_law_1060 : decode cL_law 1060 = .ok (.aload_n 1, 1) := by decide +kernel
theorem dL_law_1061 : decode cL_law 1061 = .ok (.aload_n 0, 1) := by decide +kernel
theorem dL_law_1062 : decode cL_law 1062 = .ok (.iload_n 3, 1) := by decide +kernel
theorem dL_law_1063 : decode cL_law 1063 = .ok (.iconst 1, 1) := by decide +kernel
theorem dL_law_1064 : decode cL_law 1064 = .ok (.iadd, 1) := by decide +kernel
theorem dL_law_1065 : decode cL_law 1065 = .ok (.iaload, 1) := by decide +kernel
theorem dL_law_1066 : decode cL_law 1066 = .ok (.invokevirtual 135, 3) := by decide +kernel
theorem dL_law_1069 : decode cL_law 1069 = .ok (.aload_n 2, 1) := by decide +kernel
theorem dL_law_1070 : decode cL_law 1070 = .ok (.aload_n 0, 1) := by decide +kernel
theorem dL_law_1071 : decode cL_law 1071 = .ok (.iload_n 3, 1) := by decide +kernel
theorem dL_law_1072 : decode cL_law 1072 = .ok (.iconst 1, 1) := by decide +kernel
theorem dL_law_1073 : decode cL_law 1073 = .ok (.iadd, 1) := by decide +kernel
theorem dL_law_1074 : decode cL_law 1074 = .ok (.iaload, 1) := by decide +kernel
theorem dL_law_1075 : decode cL_law 1075 = .ok (.invokevirtual 138, 3) := by decide +kernel
theorem dL_law_1078 : decode cL_law 1078 = .ok (.if_icmp .eq 234, 3) := by decide +kernel
theorem dL_law_1081 : decode cL_law 1081 = .ok (.iconst 0, 1) := by decide +kernel
theorem dL_law_1082 : decode cL_law 1082 = .ok (.ireturn, 1) := by decide +kernel
theorem dL_law_1083 : decode cL_law 1083 = .ok (.aload_n 1, 1) := by decide +kernel
theorem dL_law_1084 : decode cL_law 1084 = .ok (.aload_n 0, 1) := by decide +kernel
theorem dL_law_1085 : decode cL_law 1085 = .ok (.iload_n 3, 1) := by decide +kernel
theorem dL_law_1086 : decode cL_law 1086 = .ok (.iconst 1, 1) := by decide +kernel
theorem dL_law_1087 : decode cL_law 1087 = .ok (.iadd, 1) := by decide +kernel
theorem dL_law_1088 : decode cL_law 1088 = .ok (.iaload, 1) := by decide +kernel
theorem dL_law_1089 : decode cL_law 1089 = .ok (.aload_n 0, 1) := by decide +kernel
theorem dL_law_1090 : decode cL_law 1090 = .ok (.iload_n 3, 1) := by decide +kernel
theorem dL_law_1091 : decode cL_law 1091 = .ok (.iconst 2, 1) := by decide +kernel
theorem dL_law_1092 : decode cL_law 1092 = .ok (.iadd, 1) := by decide +kernel
theorem dL_law_1093 : decode cL_law 1093 = .ok (.iaload, 1) := by decide +kernel
theorem dL_law_1094 : decode cL_law 1094 = .ok (.aload_n 0, 1) := by decide +kernel
theorem dL_law_1095 : decode cL_law 1095 = .ok (.iload_n 3, 1) := by decide +kernel
theorem dL_law_1096 : decode cL_law 1096 = .ok (.iconst 3, 1) := by decide +kernel
theorem dL_law_1097 : decode cL_law 1097 = .ok (.iadd, 1) := by decide +kernel
theorem dL_law_1098 : decode cL_law 1098 = .ok (.iaload, 1) := by decide +kernel
theorem dL_law_1099 : decode cL_law 1099 = .ok (.aload_n 0, 1) := by decide +kernel
theorem dL_law_1100 : decode cL_law 1100 = .ok (.iload_n 3, 1) := by decide +kernel
theorem dL_law_1101 : decode cL_law 1101 = .ok (.iconst 4, 1) := by decide +kernel
theorem dL_law_1102 : decode cL_law 1102 = .ok (.iadd, 1) := by decide +kernel
theorem dL_law_1103 : decode cL_law 1103 = .ok (.iaload, 1) := by decide +kernel
theorem dL_law_1104 : decode cL_law 1104 = .ok (.invokevirtual 139, 3) := by decide +kernel
theorem dL_law_1107 : decode cL_law 1107 = .ok (.aload_n 2, 1) := by decide +kernel
theorem dL_law_1108 : decode cL_law 1108 = .ok (.aload_n 0, 1) := by decide +kernel
theorem dL_law_1109 : decode cL_law 1109 = .ok (.iload_n 3, 1) := by decide +kernel
theorem dL_law_1110 : decode cL_law 1110 = .ok (.iconst 1, 1) := by decide +kernel
theorem dL_law_1111 : decode cL_law 1111 = .ok (.iadd, 1) := by decide +kernel
theorem dL_law_1112 : decode cL_law 1112 = .ok (.iaload, 1) := by decide +kernel
theorem dL_law_1113 : decode cL_law 1113 = .ok (.aload_n 0, 1) := by decide +kernel
theorem dL_law_1114 : decode cL_law 1114 = .ok (.iload_n 3, 1) := by decide +kernel
theorem dL_law_1115 : decode cL_law 1115 = .ok (.iconst 2, 1) := by decide +kernel
theorem dL_law_1116 : decode cL_law 1116 = .ok (.iadd, 1) := by decide +kernel
theorem dL_law_1117 : decode cL_law 1117 = .ok (.iaload, 1) := by decide +kernel
theorem dL_law_1118 : decode cL_law 1118 = .ok (.aload_n 0, 1) := by decide +kernel
theorem dL_law_1119 : decode cL_law 1119 = .ok (.iload_n 3, 1) := by decide +kernel
theorem dL_law_1120 : decode cL_law 1120 = .ok (.iconst 3, 1) := by decide +kernel
theorem dL_law_1121 : decode cL_law 1121 = .ok (.iadd, 1) := by decide +kernel
theorem dL_law_1122 : decode cL_law 1122 = .ok (.iaload, 1) := by decide +kernel
theorem dL_law_1123 : decode cL_law 1123 = .ok (.aload_n 0, 1) := by decide +kernel
theorem dL_law_1124 : decode cL_law 1124 = .ok (.iload_n 3, 1) := by decide +kernel
theorem dL_law_1125 : decode cL_law 1125 = .ok (.iconst 4, 1) := by decide +kernel
theorem dL_law_1126 : decode cL_law 1126 = .ok (.iadd, 1) := by decide +kernel
theorem dL_law_1127 : decode cL_law 1127 = .ok (.iaload, 1) := by decide +kernel
theorem dL_law_1128 : decode cL_law 1128 = .ok (.invokevirtual 142, 3) := by decide +kernel
theorem dL_law_1131 : decode cL_law 1131 = .ok (.if_icmp .eq 181, 3) := by decide +kernel
theorem dL_law_1134 : decode cL_law 1134 = .ok (.iconst 0, 1) := by decide +kernel
theorem dL_law_1135 : decode cL_law 1135 = .ok (.ireturn, 1) := by decide +kernel
theorem dL_law_1136 : decode cL_law 1136 = .ok (.aload_n 1, 1) := by decide +kernel
theorem dL_law_1137 : decode cL_law 1137 = .ok (.aload_n 0, 1) := by decide +kernel
theorem dL_law_1138 : decode cL_law 1138 = .ok (.iload_n 3, 1) := by decide +kernel
theorem dL_law_1139 : decode cL_law 1139 = .ok (.iconst 1, 1) := by decide +kernel
theorem dL_law_1140 : decode cL_law 1140 = .ok (.iadd, 1) := by decide +kernel
theorem dL_law_1141 : decode cL_law 1141 = .ok (.iaload, 1) := by decide +kernel
theorem dL_law_1142 : decode cL_law 1142 = .ok (.aload_n 0, 1) := by decide +kernel
theorem dL_law_1143 : decode cL_law 1143 = .ok (.iload_n 3, 1) := by decide +kernel
theorem dL_law_1144 : decode cL_law 1144 = .ok (.iconst 2, 1) := by decide +kernel
theorem dL_law_1145 : decode cL_law 1145 = .ok (.iadd, 1) := by decide +kernel
theorem dL_law_1146 : decode cL_law 1146 = .ok (.iaload, 1) := by decide +kernel
theorem dL_law_1147 : decode cL_law 1147 = .ok (.aload_n 0, 1) := by decide +kernel
theorem dL_law_1148 : decode cL_law 1148 = .ok (.iload_n 3, 1) := by decide +kernel
theorem dL_law_1149 : decode cL_law 1149 = .ok (.iconst 3, 1) := by decide +kernel
theorem dL_law_1150 : decode cL_law 1150 = .ok (.iadd, 1) := by decide +kernel
theorem dL_law_1151 : decode cL_law 1151 = .ok (.iaload, 1) := by decide +kernel
theorem dL_law_1152 : decode cL_law 1152 = .ok (.invokevirtual 143, 3) := by decide +kernel
theorem dL_law_1155 : decode cL_law 1155 = .ok (.aload_n 2, 1) := by decide +kernel
theorem dL_law_1156 : decode cL_law 1156 = .ok (.aload_n 0, 1) := by decide +kernel
theorem dL_law_1157 : decode cL_law 1157 = .ok (.iload_n 3, 1) := by decide +kernel
theorem dL_law_1158 : decode cL_law 1158 = .ok (.iconst 1, 1) := by decide +kernel
theorem dL_law_1159 : decode cL_law 1159 = .ok (.iadd, 1) := by decide +kernel
theorem dL_law_1160 : decode cL_law 1160 = .ok (.iaload, 1) := by decide +kernel
theorem dL_law_1161 : decode cL_law 1161 = .ok (.aload_n 0, 1) := by decide +kernel
theorem dL_law_1162 : decode cL_law 1162 = .ok (.iload_n 3, 1) := by decide +kernel
theorem dL_law_1163 : decode cL_law 1163 = .ok (.iconst 2, 1) := by decide +kernel
theorem dL_law_1164 : decode cL_law 1164 = .ok (.iadd, 1) := by decide +kernel
theorem dL_law_1165 : decode cL_law 1165 = .ok (.iaload, 1) := by decide +kernel
theorem dL_law_1166 : decode cL_law 1166 = .ok (.aload_n 0, 1) := by decide +kernel
theorem dL_law_1167 : decode cL_law 1167 = .ok (.iload_n 3, 1) := by decide +kernel
theorem dL_law_1168 : decode cL_law 1168 = .ok (.iconst 3, 1) := by decide +kernel
theorem dL_law_1169 : decode cL_law 1169 = .ok (.iadd, 1) := by decide +kernel
theorem dL_law_1170 : decode cL_law 1170 = .ok (.iaload, 1) := by decide +kernel
theorem dL_law_1171 : decode cL_law 1171 = .ok (.invokevirtual 146, 3) := by decide +kernel
theorem dL_law_1174 : decode cL_law 1174 = .ok (.if_icmp .eq 138, 3) := by decide +kernel
theorem dL_law_1177 : decode cL_law 1177 = .ok (.iconst 0, 1) := by decide +kernel
theorem dL_law_1178 : decode cL_law 1178 = .ok (.ireturn, 1) := by decide +kernel
theorem dL_law_1179 : decode cL_law 1179 = .ok (.aload_n 1, 1) := by decide +kernel
theorem dL_law_1180 : decode cL_law 1180 = .ok (.aload_n 0, 1) := by decide +kernel
theorem dL_law_1181 : decode cL_law 1181 = .ok (.iload_n 3, 1) := by decide +kernel
theorem dL_law_1182 : decode cL_law 1182 = .ok (.iconst 1, 1) := by decide +kernel
theorem dL_law_1183 : decode cL_law 1183 = .ok (.iadd, 1) := by decide +kernel
theorem dL_law_1184 : decode cL_law 1184 = .ok (.iaload, 1) := by decide +kernel
theorem dL_law_1185 : decode cL_law 1185 = .ok (.aload_n 0, 1) := by decide +kernel
theorem dL_law_1186 : decode cL_law 1186 = .ok (.iload_n 3, 1) := by decide +kernel
theorem dL_law_1187 : decode cL_law 1187 = .ok (.iconst 2, 1) := by decide +kernel
theorem dL_law_1188 : decode cL_law 1188 = .ok (.iadd, 1) := by decide +kernel
theorem dL_law_1189 : decode cL_law 1189 = .ok (.iaload, 1) := by decide +kernel
theorem dL_law_1190 : decode cL_law 1190 = .ok (.aload_n 0, 1) := by decide +kernel
theorem dL_law_1191 : decode cL_law 1191 = .ok (.iload_n 3, 1) := by decide +kernel
theorem dL_law_1192 : decode cL_law 1192 = .ok (.iconst 3, 1) := by decide +kernel
theorem dL_law_1193 : decode cL_law 1193 = .ok (.iadd, 1) := by decide +kernel
theorem dL_law_1194 : decode cL_law 1194 = .ok (.iaload, 1) := by decide +kernel
theorem dL_law_1195 : decode cL_law 1195 = .ok (.aload_n 0, 1) := by decide +kernel
theorem dL_law_1196 : decode cL_law 1196 = .ok (.iload_n 3, 1) := by decide +kernel
theorem dL_law_1197 : decode cL_law 1197 = .ok (.iconst 4, 1) := by decide +kernel
theorem dL_law_1198 : decode cL_law 1198 = .ok (.iadd, 1) := by decide +kernel
theorem dL_law_1199 : decode cL_law 1199 = .ok (.iaload, 1) := by decide +kernel
theorem dL_law_1200 : decode cL_law 1200 = .ok (.aload_n 0, 1) := by decide +kernel
theorem dL_law_1201 : decode cL_law 1201 = .ok (.iload_n 3, 1) := by decide +kernel
theorem dL_law_1202 : decode cL_law 1202 = .ok (.iconst 5, 1) := by decide +kernel
theorem dL_law_1203 : decode cL_law 1203 = .ok (.iadd, 1) := by decide +kernel
theorem dL_law_1204 : decode cL_law 1204 = .ok (.iaload, 1) := by decide +kernel
theorem dL_law_1205 : decode cL_law 1205 = .ok (.invokevirtual 147, 3) := by decide +kernel
theorem dL_law_1208 : decode cL_law 1208 = .ok (.aload_n 2, 1) := by decide +kernel
theorem dL_law_1209 : decode cL_law 1209 = .ok (.aload_n 0, 1) := by decide +kernel
theorem dL_law_1210 : decode cL_law 1210 = .ok (.iload_n 3, 1) := by decide +kernel
theorem dL_law_1211 : decode cL_law 1211 = .ok (.iconst 1, 1) := by decide +kernel
theorem dL_law_1212 : decode cL_law 1212 = .ok (.iadd, 1) := by decide +kernel
theorem dL_law_1213 : decode cL_law 1213 = .ok (.iaload, 1) := by decide +kernel
theorem dL_law_1214 : decode cL_law 1214 = .ok (.aload_n 0, 1) := by decide +kernel
theorem dL_law_1215 : decode cL_law 1215 = .ok (.iload_n 3, 1) := by decide +kernel
theorem dL_law_1216 : decode cL_law 1216 = .ok (.iconst 2, 1) := by decide +kernel
theorem dL_law_1217 : decode cL_law 1217 = .ok (.iadd, 1) := by decide +kernel
theorem dL_law_1218 : decode cL_law 1218 = .ok (.iaload, 1) := by decide +kernel
theorem dL_law_1219 : decode cL_law 1219 = .ok (.aload_n 0, 1) := by decide +kernel
theorem dL_law_1220 : decode cL_law 1220 = .ok (.iload_n 3, 1) := by decide +kernel
theorem dL_law_1221 : decode cL_law 1221 = .ok (.iconst 3, 1) := by decide +kernel
theorem dL_law_1222 : decode cL_law 1222 = .ok (.iadd, 1) := by decide +kernel
theorem dL_law_1223 : decode cL_law 1223 = .ok (.iaload, 1) := by decide +kernel
theorem dL_law_1224 : decode cL_law 1224 = .ok (.aload_n 0, 1) := by decide +kernel
theorem dL_law_1225 : decode cL_law 1225 = .ok (.iload_n 3, 1) := by decide +kernel
theorem dL_law_1226 : decode cL_law 1226 = .ok (.iconst 4, 1) := by decide +kernel
theorem dL_law_1227 : decode cL_law 1227 = .ok (.iadd, 1) := by decide +kernel
theorem dL_law_1228 : decode cL_law 1228 = .ok (.iaload, 1) := by decide +kernel
theorem dL_law_1229 : decode cL_law 1229 = .ok (.aload_n 0, 1) := by decide +kernel
theorem dL_law_1230 : decode cL_law 1230 = .ok (.iload_n 3, 1) := by decide +kernel
theorem dL_law_1231 : decode cL_law 1231 = .ok (.iconst 5, 1) := by decide +kernel
theorem dL_law_1232 : decode cL_law 1232 = .ok (.iadd, 1) := by decide +kernel
theorem dL_law_1233 : decode cL_law 1233 = .ok (.iaload, 1) := by decide +kernel
theorem dL_law_1234 : decode cL_law 1234 = .ok (.invokevirtual 151, 3) := by decide +kernel
theorem dL_law_1237 : decode cL_law 1237 = .ok (.if_icmp .eq 75, 3) := by decide +kernel
theorem dL_law_1240 : decode cL_law 1240 = .ok (.iconst 0, 1) := by decide +kernel
theorem dL_law_1241 : decode cL_law 1241 = .ok (.ireturn, 1) := by decide +kernel
theorem dL_law_1242 : decode cL_law 1242 = .ok (.aload_n 1, 1) := by decide +kernel
theorem dL_law_1243 : decode cL_law 1243 = .ok (.aload_n 0, 1) := by decide +kernel
theorem dL_law_1244 : decode cL_law 1244 = .ok (.iload_n 3, 1) := by decide +kernel
theorem dL_law_1245 : decode cL_law 1245 = .ok (.iconst 1, 1) := by decide +kernel
theorem dL_law_1246 : decode cL_law 1246 = .ok (.iadd, 1) := by decide +kernel
theorem dL_law_1247 : decode cL_law 1247 = .ok (.iaload, 1) := by decide +kernel
theorem dL_law_1248 : decode cL_law 1248 = .ok (.aload_n 0, 1) := by decide +kernel
theorem dL_law_1249 : decode cL_law 1249 = .ok (.iload_n 3, 1) := by decide +kernel
theorem dL_law_1250 : decode cL_law 1250 = .ok (.iconst 2, 1) := by decide +kernel
theorem dL_law_1251 : decode cL_law 1251 = .ok (.iadd, 1) := by decide +kernel
theorem dL_law_1252 : decode cL_law 1252 = .ok (.iaload, 1) := by decide +kernel
theorem dL_law_1253 : decode cL_law 1253 = .ok (.invokevirtual 152, 3) := by decide +kernel
theorem dL_law_1256 : decode cL_law 1256 = .ok (.aload_n 2, 1) := by decide +kernel
theorem dL_law_1257 : decode cL_law 1257 = .ok (.aload_n 0, 1) := by decide +kernel
theorem dL_law_1258 : decode cL_law 1258 = .ok (.iload_n 3, 1) := by decide +kernel
theorem dL_law_1259 : decode cL_law 1259 = .ok (.iconst 1, 1) := by decide +kernel
theorem dL_law_1260 : decode cL_law 1260 = .ok (.iadd, 1) := by decide +kernel
theorem dL_law_1261 : decode cL_law 1261 = .ok (.iaload, 1) := by decide +kernel
theorem dL_law_1262 : decode cL_law 1262 = .ok (.aload_n 0, 1) := by decide +kernel
theorem dL_law_1263 : decode cL_law 1263 = .ok (.iload_n 3, 1) := by decide +kernel
theorem dL_law_1264 : decode cL_law 1264 = .ok (.iconst 2, 1) := by decide +kernel
theorem dL_law_1265 : decode cL_law 1265 = .ok (.iadd, 1) := by decide +kernel
theorem dL_law_1266 : decode cL_law 1266 = .ok (.iaload, 1) := by decide +kernel
theorem dL_law_1267 : decode cL_law 1267 = .ok (.invokevirtual 155, 3) := by decide +kernel
theorem dL_law_1270 : decode cL_law 1270 = .ok (.if_icmp .eq 42, 3) := by decide +kernel
theorem dL_law_1273 : decode cL_law 1273 = .ok (.iconst 0, 1) := by decide +kernel
theorem dL_law_1274 : decode cL_law 1274 = .ok (.ireturn, 1) := by decide +kernel
theorem dL_law_1275 : decode cL_law 1275 = .ok (.aload_n 1, 1) := by decide +kernel
theorem dL_law_1276 : decode cL_law 1276 = .ok (.aload_n 0, 1) := by decide +kernel
theorem dL_law_1277 : decode cL_law 1277 = .ok (.iload_n 3, 1) := by decide +kernel
theorem dL_law_1278 : decode cL_law 1278 = .ok (.iconst 1, 1) := by decide +kernel
theorem dL_law_1279 : decode cL_law 1279 = .ok (.iadd, 1) := by decide +kernel
theorem dL_law_1280 : decode cL_law 1280 = .ok (.iaload, 1) := by decide +kernel
theorem dL_law_1281 : decode cL_law 1281 = .ok (.invokevirtual 156, 3) := by decide +kernel
theorem dL_law_1284 : decode cL_law 1284 = .ok (.aload_n 2, 1) := by decide +kernel
theorem dL_law_1285 : decode cL_law 1285 = .ok (.aload_n 0, 1) := by decide +kernel
theorem dL_law_1286 : decode cL_law 1286 = .ok (.iload_n 3, 1) := by decide +kernel
theorem dL_law_1287 : decode cL_law 1287 = .ok (.iconst 1, 1) := by decide +kernel
theorem dL_law_1288 : decode cL_law 1288 = .ok (.iadd, 1) := by decide +kernel
theorem dL_law_1289 : decode cL_law 1289 = .ok (.iaload, 1) := by decide +kernel
theorem dL_law_1290 : decode cL_law 1290 = .ok (.invokevirtual 159, 3) := by decide +kernel
theorem dL_law_1293 : decode cL_law 1293 = .ok (.if_icmp .eq 19, 3) := by decide +kernel
theorem dL_law_1296 : decode cL_law 1296 = .ok (.iconst 0, 1) := by decide +kernel
theorem dL_law_1297 : decode cL_law 1297 = .ok (.ireturn, 1) := by decide +kernel
theorem dL_law_1298 : decode cL_law 1298 = .ok (.aload_n 1, 1) := by decide +kernel
theorem dL_law_1299 : decode cL_law 1299 = .ok (.invokevirtual 160, 3) := by decide +kernel
theorem dL_law_1302 : decode cL_law 1302 = .ok (.aload_n 2, 1) := by decide +kernel
theorem dL_law_1303 : decode cL_law 1303 = .ok (.invokevirtual 164, 3) := by decide +kernel
theorem dL_law_1306 : decode cL_law 1306 = .ok (.lcmp, 1) := by decide +kernel
theorem dL_law_1307 : decode cL_law 1307 = .ok (.ifCond .eq 5, 3) := by decide +kernel
theorem dL_law_1310 : decode cL_law 1310 = .ok (.iconst 0, 1) := by decide +kernel
theorem dL_law_1311 : decode cL_law 1311 = .ok (.ireturn, 1) := by decide +kernel
theorem dL_law_1312 : decode cL_law 1312 = .ok (.iinc 3 6, 3) := by decide +kernel
theorem dL_law_1315 : decode cL_law 1315 = .ok (.goto (-1297), 3) := by decide +kernel
theorem dL_law_1318 : decode cL_law 1318 = .ok (.iconst 1, 1) := by decide +kernel
theorem dL_law_1319 : decode cL_law 1319 = .ok (.ireturn, 1) := by decide +kernel
end
section
/-! MODELS: what a method's model is made of -/
def gd {α : Type} (b : Bool) (x : Option α) : Option α := match b with
  | true => x
  | false => none
theorem gdE {α : Type} {b : Bool} {x : Option α} {r : α} (h : gd b x = some r) : b = true ∧ x = some r := by
  cases b with
  | true => exact ⟨rfl, h⟩
  | false => cases h
theorem bindE {α β : Type} {x : Option α} {f : α → Option β} {r : β} (h : x.bind f = some r) : ∃ o, x = some o ∧ f o = some r := by
  cases x with
  | none => cases h
  | some o => exact ⟨o, rfl, h⟩
theorem ipos {α : Sort _} {c : Prop} {d : Decidable c} {a b r : α} (h : c) (hm : (@ite _ c d a b) = r) : a = r := by
  rw [if_pos h] at hm; exact hm
theorem ineg {α : Sort _} {c : Prop} {d : Decidable c} {a b r : α} (h : ¬ c) (hm : (@ite _ c d a b) = r) : b = r := by
  rw [if_neg h] at hm; exact hm
def inb (i : Int32) (n : Nat) : Bool := decide (¬ (i < 0 ∨ n ≤ i.toNatClampNeg))
theorem inbE {i : Int32} {n : Nat} (h : inb i n = true) : vp_in i n := of_decide_eq_true (p := ¬ (i < 0 ∨ n ≤ i.toNatClampNeg)) h
def nz (y : Int32) : Bool := decide (¬ y = 0)
def nzL (y : Int64) : Bool := decide (¬ y = 0)
def isB (v : Int32) : Bool := decide (narrow .boolean (.int v) = .int v)
def isBy (v : Int32) : Bool := decide (narrow .byte (.int v) = .int v)
def ushr (x y : Int32) : Int32 := (x.toUInt32 >>> (y.toUInt32 &&& Int32.toUInt32 31)).toInt32
def lushr (x : Int64) (y : Int32) : Int64 := (x.toUInt64 >>> (y.toInt64.toUInt64 &&& Int64.toUInt64 63)).toInt64
def lshl (x : Int64) (y : Int32) : Int64 := x <<< (y.toInt64 &&& 63)
def lshr (x : Int64) (y : Int32) : Int64 := x >>> (y.toInt64 &&& 63)
def cpyok (sp dp n : Int32) (n0 n1 : Nat) : Bool := decide (¬ sp < 0 ∧ ¬ dp < 0 ∧ ¬ n < 0 ∧ sp.toNatClampNeg + n.toNatClampNeg ≤ n0 ∧ dp.toNatClampNeg + n.toNatClampNeg ≤ n1)
def iter {F : Type} (z : F) (b : F → F) : Nat → F
  | 0 => z
  | n + 1 => b (iter z b n)
end
section
/-! WORDS: the tables' good words, one list for all methods -/
def gWs : List Cond := lw_tbl.filter goodWord
theorem gWs_word (w : Cond) (h : w ∈ gWs) : (w.onTables && w.keeps) = true ∨ ∃ ty, w = .arrayClass ty := good_of_word (List.mem_filter.mp h).2
theorem gIn {w : Cond} (i : Nat) (h : lw_tbl[i]? = some w) (hg : goodWord w = true) : w ∈ gWs := List.mem_filter.mpr ⟨List.mem_of_getElem? h, hg⟩
theorem gIns {ws : List Cond} (h : ∀ w ∈ ws, w ∈ lw_tbl) (hg : ws.all goodWord = true) : ∀ w ∈ ws, w ∈ gWs := fun w hw => List.mem_filter.mpr ⟨h w hw, List.all_eq_true.mp hg w hw⟩
theorem gWs_tbl {w : Cond} (h : w ∈ gWs) : w ∈ lw_tbl := (List.mem_filter.mp h).1
/-- links between nest mates: they are carried beside the words -/
abbrev gNest : Type := String × Nat × MethodName × String
def nestW : List gNest := [("WallHands", 23, ⟨"WallHands$Wall", "<init>", "()V"⟩, "WallHands"), ("WallHands", 30, ⟨"WallHands$Hands", "<init>", "()V"⟩, "WallHands"), ("WallHands", 37, ⟨"WallHands$Frosts", "<init>", "()V"⟩, "WallHands"), ("WallHands", 47, ⟨"WallHands$Gappings", "<init>", "()V"⟩, "WallHands"), ("WallHands", 54, ⟨"WallHands$Sights", "<init>", "()V"⟩, "WallHands"), ("WallHands", 89, ⟨"WallHands$Sheet", "<init>", "()V"⟩, "WallHands"), ("WallHands$Wall", 51, ⟨"WallHands", "within", "(III)Z"⟩, "WallHands"), ("WallHands$Hands", 25, ⟨"WallHands", "within", "(III)Z"⟩, "WallHands"), ("WallHands$Frosts", 18, ⟨"WallHands", "isYear", "(I)Z"⟩, "WallHands"), ("WallHands$Frosts", 22, ⟨"WallHands", "within", "(III)Z"⟩, "WallHands"), ("WallHands$Years", 49, ⟨"WallHands", "union", "([J)J"⟩, "WallHands"), ("WallHands$Years", 112, ⟨"WallHands", "besideAtLeast", "(JI)J"⟩, "WallHands"), ("WallHands$Years", 91, ⟨"WallHands", "borneOf", "(J)J"⟩, "WallHands"), ("WallHands$Years", 147, ⟨"WallHands", "setterAt", "([JII)I"⟩, "WallHands"), ("WallHands$Years", 155, ⟨"WallHands", "isAt", "(JI)Z"⟩, "WallHands"), ("WallHands$Sheet", 22, ⟨"WallHands", "within", "(III)Z"⟩, "WallHands")]
abbrev gNw (q : gNest) (U : State) : Prop := va_Nw (.methodLinkNest q.1 q.2.1 q.2.2.1 q.2.2.2) U

/-! WALKS: what stays the same over a method's body; what holds at a point of it -/
abbrev gG : Type := va_G × ClassId × ClassId × ClassId × ClassId × Nat × Nat
-- array classes: int, long, boolean, Sheet; the String constant and its bytes
abbrev gI (g : gG) : ClassId := g.2.1
abbrev gJ (g : gG) : ClassId := g.2.2.1
abbrev gZ (g : gG) : ClassId := g.2.2.2.1
abbrev gL (g : gG) : ClassId := g.2.2.2.2.1
abbrev gSK (g : gG) : Nat := g.2.2.2.2.2.1
abbrev gSV (g : gG) : Nat := g.2.2.2.2.2.2
def gT (g : gG) : List (ClassId × FieldType) := [(gI g, .int), (gJ g, .long), (gZ g, .boolean), (gL g, .object "WallHands$Sheet")]
def gStr (g : gG) (A : Nat → Prop) (U : State) (H : Heap) : Prop := vk_R "WallHands$Hands" 38 "ptls" (gSK g) U ∧ vk_S 1 [4] [[112, 116, 108, 115]] (fun _ => gSK g) (fun _ => gSV g) A U H ∧ va_Z "java/lang/String" "COMPACT_STRINGS" "Z" (.int 1) A U H
def gK (g : gG) (A : Nat → Prop) (U : State) (H : Heap) : Prop := va_K g.1 vwCl (gT g) U ∧ (∀ q ∈ nestW, gNw q U) ∧ gStr g A U H
def gX (p : Program) (s : State) (m : MethodId) (args : Array Value) (meth : Method) (c : Code) (cc : ByteArray) (nL : Nat) (ret : Option FieldType) (own : String) (g : gG) (A : Nat → Prop) : Prop :=
  p.tables.exec = Jvm.exec ∧ c.code = cc ∧ meth.sig.returnType = ret ∧ c.maxLocals = nL ∧ s.vm.findClass own = some m.cls ∧ (∀ w ∈ gWs, w.before args s = true) ∧ meth.locks = false ∧ gK g A s s.heap ∧ (∀ q, s.heap.size ≤ q → A q)
def gW (g : gG) (A : Nat → Prop) (s : State) (ws : va_W) (H : Heap) (locs : List Loc) : Prop := va_P g.1 vwCl ws H ∧ va_D A ws ∧ va_S A s.heap H locs
def gPre (g : gG) (sz : Nat) (ws : va_W) : State → Prop := fun U => U.heap.size = sz ∧ va_P g.1 vwCl ws U.heap ∧ gK g (va_A ws sz) U U.heap ∧ va_D (fun _ => True) ws
def gB (g : gG) (ws' : va_W) : Unit → State → Prop := fun _ t => va_P g.1 vwCl ws' t.heap
def gBr (g : gG) (ra : Nat) (ws' : va_W) : Unit → Nat → State → Prop := fun _ a t => a = ra ∧ va_P g.1 vwCl ws' t.heap
abbrev gMi (l : Launch) (y : MethodName) (cc : ByteArray) (maxL : Nat) (ret : Option FieldType) (rm : Room) (g : gG) (sz : Nat) (av : List Value) (ws : va_W) (r : Int32) (ws' : va_W) : Prop :=
  Met l y (.code y cc maxL ret :: gWs) rm (va_Pc av (gPre g sz ws)) (va_Qi (fun v (_ : Unit) => v = r) (gB g ws') (va_A ws sz)) 0 0 (va_A ws sz)
abbrev gMl (l : Launch) (y : MethodName) (cc : ByteArray) (maxL : Nat) (ret : Option FieldType) (rm : Room) (g : gG) (sz : Nat) (av : List Value) (ws : va_W) (r : Int64) (ws' : va_W) : Prop :=
  Met l y (.code y cc maxL ret :: gWs) rm (va_Pc av (gPre g sz ws)) (va_Ql (fun v (_ : Unit) => v = r) (gB g ws') (va_A ws sz)) 0 0 (va_A ws sz)
abbrev gMv (l : Launch) (y : MethodName) (cc : ByteArray) (maxL : Nat) (ret : Option FieldType) (rm : Room) (g : gG) (sz : Nat) (av : List Value) (ws : va_W) (ws' : va_W) : Prop :=
  Met l y (.code y cc maxL ret :: gWs) rm (va_Pc av (gPre g sz ws)) (va_Qv (fun (_ : Unit) => True) (gB g ws') (va_A ws sz)) 0 0 (va_A ws sz)
abbrev gMr (l : Launch) (y : MethodName) (cc : ByteArray) (maxL : Nat) (ret : Option FieldType) (rm : Room) (g : gG) (sz : Nat) (av : List Value) (ws : va_W) (ra : Nat) (ws' : va_W) : Prop :=
  Met l y (.code y cc maxL ret :: gWs) rm (va_Pc av (gPre g sz ws)) (va_Qr (fun (_ : Unit) => True) (gBr g ra ws') (va_A ws sz)) 0 0 (va_A ws sz)
abbrev gQi (below : List Frame) (args : Array Value) (s : State) (A : Nat → Prop) (g : gG) (r : Int32) (ws' : va_W) : State → Prop := MQ below (va_Qi (fun v (_ : Unit) => v = r) (gB g ws') A) args s 0 0 A
abbrev gQl (below : List Frame) (args : Array Value) (s : State) (A : Nat → Prop) (g : gG) (r : Int64) (ws' : va_W) : State → Prop := MQ below (va_Ql (fun v (_ : Unit) => v = r) (gB g ws') A) args s 0 0 A
abbrev gQv (below : List Frame) (args : Array Value) (s : State) (A : Nat → Prop) (g : gG) (ws' : va_W) : State → Prop := MQ below (va_Qv (fun (_ : Unit) => True) (gB g ws') A) args s 0 0 A
abbrev gQr (below : List Frame) (args : Array Value) (s : State) (A : Nat → Prop) (g : gG) (ra : Nat) (ws' : va_W) : State → Prop := MQ below (va_Qr (fun (_ : Unit) => True) (gBr g ra ws') A) args s 0 0 A
/-- a field, as one class's pool links it -/
def gFld (own : String) (index ci k : Nat) : Prop := ∃ (C : String) (T : u_T) (N : Nat), vwCl[ci]? = some (C, T, N) ∧ (∀ w ∈ u_ws C T N, w ∈ gWs) ∧ k < N ∧ Cond.fieldLink own index C (T k).2.1 (T k).2.2.1 ∈ gWs ∧ (T k).1 = C
def gFldP (own : String) (index ci k : Nat) (ty : FieldType) : Prop := ∃ (C : String) (T : u_T) (N : Nat) (ty0 : Nat → FieldType), vwCl[ci]? = some (C, T, N) ∧ (∀ w ∈ u_ws C T N, w ∈ gWs) ∧ k < N ∧ Cond.fieldLink own index C (T k).2.1 (T k).2.2.1 ∈ gWs ∧ (T k).1 = C ∧ (∀ k, k < N → parseFieldDescriptor (T k).2.2.1 = some (ty0 k)) ∧ (∀ a, a < N → ∀ b, b < N → a ≠ b → (T a).2.1 ≠ (T b).2.1) ∧ (T k).2.2.2 = false ∧ parseFieldDescriptor (T k).2.2.1 = some ty
def gYok (y : MethodName) (n : Nat) : Prop := y.cls ≠ "java/lang/invoke/MethodHandle" ∧ y.cls ≠ "java/lang/invoke/VarHandle" ∧ (parseMethodDescriptor y.desc).map (fun d => d.parameters.length) = some n
/-- a method, as one class's pool links it: virtual, static, static of a nest mate -/
def gLinkV (own : String) (index : Nat) (y : MethodName) (cb : ByteArray) (mL : Nat) (rt : Option FieldType) (n : Nat) : Prop := Cond.methodLink own index y ∈ gWs ∧ Cond.instanceMethod y ∈ gWs ∧ Cond.selects y.cls y y ∈ gWs ∧ Cond.initialized y.cls ∈ gWs ∧ Cond.code y cb mL rt ∈ gWs ∧ gYok y n
def gLinkS (own : String) (index : Nat) (y : MethodName) (cb : ByteArray) (mL : Nat) (rt : Option FieldType) (n : Nat) : Prop := Cond.methodLink own index y ∈ gWs ∧ Cond.static y ∈ gWs ∧ Cond.initialized y.cls ∈ gWs ∧ Cond.code y cb mL rt ∈ gWs ∧ gYok y n
def gLinkN (own : String) (index : Nat) (y : MethodName) (cb : ByteArray) (mL : Nat) (rt : Option FieldType) (n : Nat) : Prop := (own, index, y, "WallHands") ∈ nestW ∧ Cond.static y ∈ gWs ∧ Cond.initialized y.cls ∈ gWs ∧ Cond.code y cb mL rt ∈ gWs ∧ gYok y n
def mmax (x y : Int32) : Int32 := if x < y then y else x
def mmin (x y : Int32) : Int32 := if y < x then y else x
def g4 (a b c d : Nat) : Nat → Option Nat := fun k => match k with
  | 0 => some a
  | 1 => some b
  | 2 => some c
  | 3 => some d
  | _ => none
/-- which of two cells a method answers -/
def gP (r a b : Nat) : Nat := if r = 0 then a else b
theorem gPick {r a b : Nat} (h : r = 0) : gP r a b = a := if_pos h
theorem gPickN {r a b : Nat} (h : ¬ r = 0) : gP r a b = b := if_neg h
/-- the String constant's bytes -/
def ptlsB : Nat → Int32 := fun j => ([112, 116, 108, 115] : List Int32).getD j 0
section GB
variable {p : Program} {l : Launch} {e : Env} {R : Room} {s : State} {m : MethodId} {args : Array Value} {below : List Frame} {meth : Method} {c : Code} {H : Heap} {locs : List Loc} {Q : State → Prop} {cc : ByteArray} {nL : Nat} {ret : Option FieldType} {own : String} {g : gG} {A : Nat → Prop} {pc : Nat} {ls : Array Slot} {rest : List Value} {ws ws' : va_W} {a : Nat}
theorem gRetI (C0 : gX p s m args meth c cc nL (some .int) own g A) (hw : gW g A s ws H locs) {v : Int32} (hd : decode cc pc = .ok (.ireturn, 1)) : W p l e R s m args below meth c H locs 0 0 (gQi below args s A g v ws) (F0 m pc ls [.int v]) := by
  obtain ⟨hx, hb, hr, hml, hown, hts, hlocks, hK, hA⟩ := C0
  obtain ⟨hP, hD, hS⟩ := hw
  exact W.iret (v := v) hx hb hr (fun t ht hW => ⟨⟨v, (), rfl, rfl, by unfold gB; rw [ht]; exact hP⟩, hS.F ht⟩) hS.2.2 hd hlocks
theorem gRetZ (C0 : gX p s m args meth c cc nL (some .boolean) own g A) (hw : gW g A s ws H locs) {v : Int32} (hn : narrow .boolean (.int v) = .int v) (hd : decode cc pc = .ok (.ireturn, 1)) : W p l e R s m args below meth c H locs 0 0 (gQi below args s A g v ws) (F0 m pc ls [.int v]) := by
  obtain ⟨hx, hb, hr, hml, hown, hts, hlocks, hK, hA⟩ := C0
  obtain ⟨hP, hD, hS⟩ := hw
  exact W.zret (v := v) hx hb hr hn (fun t ht hW => ⟨⟨v, (), rfl, rfl, by unfold gB; rw [ht]; exact hP⟩, hS.F ht⟩) hS.2.2 hd hlocks
theorem gRetBy (C0 : gX p s m args meth c cc nL (some .byte) own g A) (hw : gW g A s ws H locs) {v : Int32} (hn : narrow .byte (.int v) = .int v) (hd : decode cc pc = .ok (.ireturn, 1)) : W p l e R s m args below meth c H locs 0 0 (gQi below args s A g v ws) (F0 m pc ls [.int v]) := by
  obtain ⟨hx, hb, hr, hml, hown, hts, hlocks, hK, hA⟩ := C0
  obtain ⟨hP, hD, hS⟩ := hw
  exact W.zret (v := v) hx hb hr hn (fun t ht hW => ⟨⟨v, (), rfl, rfl, by unfold gB; rw [ht]; exact hP⟩, hS.F ht⟩) hS.2.2 hd hlocks
theorem gRetL (C0 : gX p s m args meth c cc nL (some .long) own g A) (hw : gW g A s ws H locs) {v : Int64} (hd : decode cc pc = .ok (.lreturn, 1)) : W p l e R s m args below meth c H locs 0 0 (gQl below args s A g v ws) (F0 m pc ls [.long v]) := by
  obtain ⟨hx, hb, hr, hml, hown, hts, hlocks, hK, hA⟩ := C0
  obtain ⟨hP, hD, hS⟩ := hw
  exact W.lret (v := v) hx hb hr (fun t ht hW => ⟨⟨v, (), rfl, rfl, by unfold gB; rw [ht]; exact hP⟩, hS.F ht⟩) hS.2.2 hd hlocks
theorem gRetV (C0 : gX p s m args meth c cc nL none own g A) (hw : gW g A s ws H locs) (hd : decode cc pc = .ok (.return_, 1)) : W p l e R s m args below meth c H locs 0 0 (gQv below args s A g ws) (F0 m pc ls []) := by
  obtain ⟨hx, hb, hr, hml, hown, hts, hlocks, hK, hA⟩ := C0
  obtain ⟨hP, hD, hS⟩ := hw
  exact W.vret hx hb hr (fun t ht hW => ⟨⟨(), rfl, trivial, by unfold gB; rw [ht]; exact hP⟩, hS.F ht⟩) hS.2.2 hd hlocks
theorem gRetR {C : String} (C0 : gX p s m args meth c cc nL (some (.object C)) own g A) (hw : gW g A s ws H locs) {v : Nat} (hd : decode cc pc = .ok (.areturn, 1)) : W p l e R s m args below meth c H locs 0 0 (gQr below args s A g v ws) (F0 m pc ls [.ref v]) := by
  obtain ⟨hx, hb, hr, hml, hown, hts, hlocks, hK, hA⟩ := C0
  obtain ⟨hP, hD, hS⟩ := hw
  exact W.aret (v := .ref v) hx hb hr (Or.inl ⟨C, rfl⟩) (Or.inr ⟨v, rfl⟩) (fun t ht hW => ⟨⟨(), v, rfl, trivial, rfl, by rw [ht]; exact hP⟩, hS.F ht⟩) hS.2.2 hd hlocks
theorem gGet (C0 : gX p s m args meth c cc nL ret own g A) (hw : gW g A s ws H locs) {ci k index : Nat} (hf : gFld own index ci k) (q0 : Nat) {fs : List Value} {v : Value} (he : ws[q0]? = some (a, .inr (ci, fs))) (hv : fs[k]? = some v) (hdg : decode cc pc = .ok (.getfield index, 3))
    (kk : W p l e R s m args below meth c H locs 0 0 Q (F0 m (pc + 3) ls (v :: rest))) : W p l e R s m args below meth c H locs 0 0 Q (F0 m pc ls (.ref a :: rest)) := by
  obtain ⟨hx, hb, hr, hml, hown, hts, hlocks, hK, hA⟩ := C0
  obtain ⟨hP, hD, hS⟩ := hw
  obtain ⟨C, T, N, hc, hin, hk, hlink, hd1⟩ := hf
  exact va_get hx hb hts hin hown hK.1 hP q0 he hc k hk (hts _ hlink) (fun x h => by rw [hd1] at h; exact h) hv hdg kk
theorem gPut (C0 : gX p s m args meth c cc nL ret own g A) (hw : gW g A s ws H locs) {ci k index : Nat} {ty : FieldType} (hf : gFldP own index ci k ty) (q0 : Nat) {fs : List Value} {v : Value} (he : ws[q0]? = some (a, .inr (ci, fs))) (hn : narrow ty v = v) (hfit : fits ty v = true) (hl : k < fs.length) (hws : ws.set q0 (a, .inr (ci, fs.set k v)) = ws') (hdg : decode cc pc = .ok (.putfield index, 3))
    (kk : ∀ (H : Heap) (locs : List Loc), gW g A s ws' H locs → W p l e R s m args below meth c H locs 0 0 Q (F0 m (pc + 3) ls rest)) : W p l e R s m args below meth c H locs 0 0 Q (F0 m pc ls (v :: .ref a :: rest)) := by
  obtain ⟨hx, hb, hr, hml, hown, hts, hlocks, hK, hA⟩ := C0
  obtain ⟨hP, hD, hS⟩ := hw
  obtain ⟨C, T, N, ty0, hc, hin, hk, hlink, hd1, hty, hnm, hfin, hd⟩ := hf
  subst hws
  exact va_put hx hb hts hin ty0 hty hnm hown hK.1 hP hD hS q0 he hc k hk (hts _ hlink) (fun x h => by rw [hd1] at h; exact h) hfin hd hn hfit hl hdg (fun H1 locs1 h1 h2 h3 => kk H1 locs1 ⟨h1, h2, h3⟩)
theorem gAldI (C0 : gX p s m args meth c cc nL ret own g A) (hw : gW g A s ws H locs) (q0 : Nat) {n : Nat} {f : Nat → Int32} (he : ws[q0]? = some (a, .inl (gI g, n, .inl f))) {i : Int32} (hin : vp_in i n) (hdg : decode cc pc = .ok (.iaload, 1))
    (kk : W p l e R s m args below meth c H locs 0 0 Q (F0 m (pc + 1) ls (.int (f i.toNatClampNeg) :: rest))) : W p l e R s m args below meth c H locs 0 0 Q (F0 m pc ls (.int i :: .ref a :: rest)) := by
  obtain ⟨hx, hb, hr, hml, hown, hts, hlocks, hK, hA⟩ := C0
  exact va_iald hx hb hK.1 hw.1 q0 0 he rfl hin hdg kk
theorem gAldZ (C0 : gX p s m args meth c cc nL ret own g A) (hw : gW g A s ws H locs) (q0 : Nat) {n : Nat} {f : Nat → Int32} (he : ws[q0]? = some (a, .inl (gZ g, n, .inl f))) {i : Int32} (hin : vp_in i n) (hdg : decode cc pc = .ok (.baload, 1))
    (kk : W p l e R s m args below meth c H locs 0 0 Q (F0 m (pc + 1) ls (.int (f i.toNatClampNeg) :: rest))) : W p l e R s m args below meth c H locs 0 0 Q (F0 m pc ls (.int i :: .ref a :: rest)) := by
  obtain ⟨hx, hb, hr, hml, hown, hts, hlocks, hK, hA⟩ := C0
  exact va_zald hx hb hK.1 hw.1 q0 2 he rfl hin hdg kk
theorem gAldJ (C0 : gX p s m args meth c cc nL ret own g A) (hw : gW g A s ws H locs) (q0 : Nat) {n : Nat} {f : Nat → Int64} (he : ws[q0]? = some (a, .inl (gJ g, n, .inr (.inl f)))) {i : Int32} (hin : vp_in i n) (hdg : decode cc pc = .ok (.laload, 1))
    (kk : W p l e R s m args below meth c H locs 0 0 Q (F0 m (pc + 1) ls (.long (f i.toNatClampNeg) :: rest))) : W p l e R s m args below meth c H locs 0 0 Q (F0 m pc ls (.int i :: .ref a :: rest)) := by
  obtain ⟨hx, hb, hr, hml, hown, hts, hlocks, hK, hA⟩ := C0
  exact va_lald hx hb hK.1 hw.1 q0 1 he rfl hin hdg kk
theorem gAldL (C0 : gX p s m args meth c cc nL ret own g A) (hw : gW g A s ws H locs) (q0 : Nat) {f : Nat → Option Nat} {b : Nat} (he : ws[q0]? = some (a, .inl (gL g, 4, .inr (.inr (.inr (.inr f)))))) {i j : Int32} (hij : i = j) (hin : vp_in j 4) (hb0 : f j.toNatClampNeg = some b) (hdg : decode cc pc = .ok (.aaload, 1))
    (kk : W p l e R s m args below meth c H locs 0 0 Q (F0 m (pc + 1) ls (.ref b :: rest))) : W p l e R s m args below meth c H locs 0 0 Q (F0 m pc ls (.int i :: .ref a :: rest)) := by
  obtain ⟨hx, hb, hr, hml, hown, hts, hlocks, hK, hA⟩ := C0
  subst hij
  exact va_aldq (C := "WallHands$Sheet") hx hb hK.1 hw.1 q0 3 he rfl hin hdg (by rw [hb0]; exact kk)
theorem gAstI (C0 : gX p s m args meth c cc nL ret own g A) (hw : gW g A s ws H locs) (q0 : Nat) {n : Nat} {f : Nat → Int32} (he : ws[q0]? = some (a, .inl (gI g, n, .inl f))) {i x : Int32} (hin : vp_in i n) (hws : ws.set q0 (a, .inl (gI g, n, .inl (upd f i.toNatClampNeg x))) = ws') (hdg : decode cc pc = .ok (.iastore, 1))
    (kk : ∀ (H : Heap) (locs : List Loc), gW g A s ws' H locs → W p l e R s m args below meth c H locs 0 0 Q (F0 m (pc + 1) ls rest)) : W p l e R s m args below meth c H locs 0 0 Q (F0 m pc ls (.int x :: .int i :: .ref a :: rest)) := by
  obtain ⟨hx, hb, hr, hml, hown, hts, hlocks, hK, hA⟩ := C0
  subst hws
  exact va_iast hx hb hK.1 hw.1 hw.2.1 hw.2.2 q0 0 he rfl hin hdg (fun H1 locs1 h1 h2 h3 => kk H1 locs1 ⟨h1, h2, h3⟩)
theorem gAstZ (C0 : gX p s m args meth c cc nL ret own g A) (hw : gW g A s ws H locs) (q0 : Nat) {n : Nat} {f : Nat → Int32} (he : ws[q0]? = some (a, .inl (gZ g, n, .inl f))) {i x : Int32} (hin : vp_in i n) (hws : ws.set q0 (a, .inl (gZ g, n, .inl (upd f i.toNatClampNeg (vp_nar .boolean x)))) = ws') (hdg : decode cc pc = .ok (.bastore, 1))
    (kk : ∀ (H : Heap) (locs : List Loc), gW g A s ws' H locs → W p l e R s m args below meth c H locs 0 0 Q (F0 m (pc + 1) ls rest)) : W p l e R s m args below meth c H locs 0 0 Q (F0 m pc ls (.int x :: .int i :: .ref a :: rest)) := by
  obtain ⟨hx, hb, hr, hml, hown, hts, hlocks, hK, hA⟩ := C0
  subst hws
  exact va_zast hx hb hK.1 hw.1 hw.2.1 hw.2.2 q0 2 he rfl hin hdg (fun H1 locs1 h1 h2 h3 => kk H1 locs1 ⟨h1, h2, h3⟩)
theorem gAstJ (C0 : gX p s m args meth c cc nL ret own g A) (hw : gW g A s ws H locs) (q0 : Nat) {n : Nat} {f : Nat → Int64} (he : ws[q0]? = some (a, .inl (gJ g, n, .inr (.inl f)))) {i : Int32} {x : Int64} (hin : vp_in i n) (hws : ws.set q0 (a, .inl (gJ g, n, .inr (.inl (vp_updL f i.toNatClampNeg x)))) = ws') (hdg : decode cc pc = .ok (.lastore, 1))
    (kk : ∀ (H : Heap) (locs : List Loc), gW g A s ws' H locs → W p l e R s m args below meth c H locs 0 0 Q (F0 m (pc + 1) ls rest)) : W p l e R s m args below meth c H locs 0 0 Q (F0 m pc ls (.long x :: .int i :: .ref a :: rest)) := by
  obtain ⟨hx, hb, hr, hml, hown, hts, hlocks, hK, hA⟩ := C0
  subst hws
  exact va_last hx hb hK.1 hw.1 hw.2.1 hw.2.2 q0 1 he rfl hin hdg (fun H1 locs1 h1 h2 h3 => kk H1 locs1 ⟨h1, h2, h3⟩)
theorem gLen (C0 : gX p s m args meth c cc nL ret own g A) (hw : gW g A s ws H locs) (q0 t0 : Nat) {cA : ClassId} {n : Nat} {f : (Nat → Int32) ⊕ (Nat → Int64) ⊕ (Nat → UInt32) ⊕ (Nat → UInt64) ⊕ (Nat → Option Nat)} {ty : FieldType} (he : ws[q0]? = some (a, .inl (cA, n, f))) (ht : (gT g)[t0]? = some (cA, ty)) (hdg : decode cc pc = .ok (.arraylength, 1))
    (kk : W p l e R s m args below meth c H locs 0 0 Q (F0 m (pc + 1) ls (.int (Int32.ofNat n) :: rest))) : W p l e R s m args below meth c H locs 0 0 Q (F0 m pc ls (.ref a :: rest)) := by
  obtain ⟨hx, hb, hr, hml, hown, hts, hlocks, hK, hA⟩ := C0
  exact va_alen hx hb hK.1 hw.1 q0 t0 he ht rfl hdg kk
theorem gMax (C0 : gX p s m args meth c cc nL ret own g A) (hsz : ls.size = nL) {index : Nat} (h1 : Cond.methodLink own index Lib.Math.max.name ∈ gWs) (h2 : Cond.static Lib.Math.max.name ∈ gWs) (h3 : Cond.initialized "java/lang/Math" ∈ gWs) (h4 : Cond.code Lib.Math.max.name Lib.Math.max.code 2 (some .int) ∈ gWs) (hfr : 1 ≤ R.frames) (hlo : (rest.map fun v => v.category).sum + 13 ≤ R.locals) {x y : Int32} (hdg : decode cc pc = .ok (.invokestatic index, 3))
    (kk : W p l e R s m args below meth c H locs 0 0 Q (F0 m (pc + 3) ls (.int (mmax x y) :: rest))) : W p l e R s m args below meth c H locs 0 0 Q (F0 m pc ls (.int y :: .int x :: rest)) := by
  obtain ⟨hx, hb, hr, hml, hown, hts, hlocks, hK, hA⟩ := C0
  exact va_mmax hx hb (hml.trans hsz.symm) hown (hts _ h1) (hts _ h2) (hts _ h3) (hts _ h4) hfr hlo (Nat.zero_le _) (Nat.zero_le _) hdg kk
theorem gMin (C0 : gX p s m args meth c cc nL ret own g A) (hsz : ls.size = nL) {index : Nat} (h1 : Cond.methodLink own index Lib.Math.min.name ∈ gWs) (h2 : Cond.static Lib.Math.min.name ∈ gWs) (h3 : Cond.initialized "java/lang/Math" ∈ gWs) (h4 : Cond.code Lib.Math.min.name Lib.Math.min.code 2 (some .int) ∈ gWs) (hfr : 1 ≤ R.frames) (hlo : (rest.map fun v => v.category).sum + 13 ≤ R.locals) {x y : Int32} (hdg : decode cc pc = .ok (.invokestatic index, 3))
    (kk : W p l e R s m args below meth c H locs 0 0 Q (F0 m (pc + 3) ls (.int (mmin x y) :: rest))) : W p l e R s m args below meth c H locs 0 0 Q (F0 m pc ls (.int y :: .int x :: rest)) := by
  obtain ⟨hx, hb, hr, hml, hown, hts, hlocks, hK, hA⟩ := C0
  exact va_mmin hx hb (hml.trans hsz.symm) hown (hts _ h1) (hts _ h2) (hts _ h3) (hts _ h4) hfr hlo (Nat.zero_le _) (Nat.zero_le _) hdg kk
theorem gCpyI (C0 : gX p s m args meth c cc nL ret own g A) (hw : gW g A s ws H locs) (hsz : ls.size = nL) {index : Nat} (w1 : Cond.methodLink own index arraycopyName ∈ gWs) (w2 : Cond.native arraycopyName ∈ gWs) (w3 : Cond.static arraycopyName ∈ gWs) (w4 : Cond.initialized "java/lang/System" ∈ gWs) (q0 q1 : Nat) {a0 n0 n1 : Nat} {f f1 : Nat → Int32} (ha0 : ws[q0]? = some (a0, .inl (gI g, n0, .inl f))) (ha1 : ws[q1]? = some (a, .inl (gI g, n1, .inl f1))) {sp dp n : Int32} (hok : cpyok sp dp n n0 n1 = true) (hfr : 1 ≤ R.frames) (hlo : (rest.map fun v => v.category).sum + (nativeFrameWords "java/lang/System" "arraycopy" 5 + 11) ≤ R.locals) (hws : ws.set q1 (a, .inl (gI g, n1, .inl (va_cpy f f1 sp.toNatClampNeg dp.toNatClampNeg n.toNatClampNeg))) = ws') (hdg : decode cc pc = .ok (.invokestatic index, 3))
    (kk : ∀ (H : Heap) (locs : List Loc), gW g A s ws' H locs → W p l e R s m args below meth c H locs 0 0 Q (F0 m (pc + 3) ls rest)) : W p l e R s m args below meth c H locs 0 0 Q (F0 m pc ls (.int n :: .int dp :: .ref a :: .int sp :: .ref a0 :: rest)) := by
  obtain ⟨hx, hb, hr, hml, hown, hts, hlocks, hK, hA⟩ := C0
  obtain ⟨h1, h2, h3, h4, h5⟩ := of_decide_eq_true hok
  subst hws
  exact va_copyi hx hb (hml.trans hsz.symm) hown (hts _ w1) (hts _ w2) (hts _ w3) (hts _ w4) hK.1 hw.1 hw.2.1 hw.2.2 q0 q1 0 0 ha0 ha1 rfl rfl rfl h1 h2 h3 h4 h5 (fun _ _ => rfl) hfr hlo hdg (fun H1 locs1 h1 h2 h3 => kk H1 locs1 ⟨h1, h2, h3⟩)
theorem gCpyJ (C0 : gX p s m args meth c cc nL ret own g A) (hw : gW g A s ws H locs) (hsz : ls.size = nL) {index : Nat} (w1 : Cond.methodLink own index arraycopyName ∈ gWs) (w2 : Cond.native arraycopyName ∈ gWs) (w3 : Cond.static arraycopyName ∈ gWs) (w4 : Cond.initialized "java/lang/System" ∈ gWs) (q0 q1 : Nat) {a0 n0 n1 : Nat} {f f1 : Nat → Int64} (ha0 : ws[q0]? = some (a0, .inl (gJ g, n0, .inr (.inl f)))) (ha1 : ws[q1]? = some (a, .inl (gJ g, n1, .inr (.inl f1)))) {sp dp n : Int32} (hok : cpyok sp dp n n0 n1 = true) (hfr : 1 ≤ R.frames) (hlo : (rest.map fun v => v.category).sum + (nativeFrameWords "java/lang/System" "arraycopy" 5 + 11) ≤ R.locals) (hws : ws.set q1 (a, .inl (gJ g, n1, .inr (.inl (va_cpy f f1 sp.toNatClampNeg dp.toNatClampNeg n.toNatClampNeg)))) = ws') (hdg : decode cc pc = .ok (.invokestatic index, 3))
    (kk : ∀ (H : Heap) (locs : List Loc), gW g A s ws' H locs → W p l e R s m args below meth c H locs 0 0 Q (F0 m (pc + 3) ls rest)) : W p l e R s m args below meth c H locs 0 0 Q (F0 m pc ls (.int n :: .int dp :: .ref a :: .int sp :: .ref a0 :: rest)) := by
  obtain ⟨hx, hb, hr, hml, hown, hts, hlocks, hK, hA⟩ := C0
  obtain ⟨h1, h2, h3, h4, h5⟩ := of_decide_eq_true hok
  subst hws
  exact va_copyl hx hb (hml.trans hsz.symm) hown (hts _ w1) (hts _ w2) (hts _ w3) (hts _ w4) hK.1 hw.1 hw.2.1 hw.2.2 q0 q1 1 1 ha0 ha1 rfl rfl rfl h1 h2 h3 h4 h5 (fun _ _ => rfl) hfr hlo hdg (fun H1 locs1 h1 h2 h3 => kk H1 locs1 ⟨h1, h2, h3⟩)
theorem gStrRef (C0 : gX p s m args meth c cc nL ret RX2 g A) (hdg : decode cc pc = .ok (.ldc 38, 2))
    (kk : W p l e R s m args below meth c H locs 0 0 Q (F0 m (pc + 2) ls (.ref (gSK g) :: rest))) : W p l e R s m args below meth c H locs 0 0 Q (F0 m pc ls rest) := by
  obtain ⟨hx, hb, hr, hml, hown, hts, hlocks, hK, hA⟩ := C0
  exact va_ldcS hx hb hown hK.2.2.1 hdg kk
theorem gStrVal (C0 : gX p s m args meth c cc nL ret RJ0 g A) (hw : gW g A s ws H locs) (h1 : Cond.fieldLink RJ0 9 RJ0 "value" "[B" ∈ gWs) (hdg : decode cc pc = .ok (.getfield 9, 3))
    (kk : W p l e R s m args below meth c H locs 0 0 Q (F0 m (pc + 3) ls (.ref (gSV g) :: rest))) : W p l e R s m args below meth c H locs 0 0 Q (F0 m pc ls (.ref (gSK g) :: rest)) := by
  obtain ⟨hx, hb, hr, hml, hown, hts, hlocks, hK, hA⟩ := C0
  exact vk_getf hx hb (hK.2.2.2.1.1 0 (by decide)).2.2.1 hw.2.2 hown (hts _ h1) (fun _ h => h) hdg kk
theorem gStrCoder (C0 : gX p s m args meth c cc nL ret RJ0 g A) (hw : gW g A s ws H locs) (h1 : Cond.fieldLink RJ0 15 RJ0 "coder" "B" ∈ gWs) (hdg : decode cc pc = .ok (.getfield 15, 3))
    (kk : W p l e R s m args below meth c H locs 0 0 Q (F0 m (pc + 3) ls (.int 0 :: rest))) : W p l e R s m args below meth c H locs 0 0 Q (F0 m pc ls (.ref (gSK g) :: rest)) := by
  obtain ⟨hx, hb, hr, hml, hown, hts, hlocks, hK, hA⟩ := C0
  exact vk_getf hx hb (hK.2.2.2.1.1 0 (by decide)).2.1 hw.2.2 hown (hts _ h1) (fun _ h => h) hdg kk
theorem gStrStat (C0 : gX p s m args meth c cc nL ret RJ0 g A) (hw : gW g A s ws H locs) (h1 : Cond.fieldLink RJ0 38 RJ0 "COMPACT_STRINGS" "Z" ∈ gWs) (hdg : decode cc pc = .ok (.getstatic 38, 3))
    (kk : W p l e R s m args below meth c H locs 0 0 Q (F0 m (pc + 3) ls (.int 1 :: rest))) : W p l e R s m args below meth c H locs 0 0 Q (F0 m pc ls rest) := by
  obtain ⟨hx, hb, hr, hml, hown, hts, hlocks, hK, hA⟩ := C0
  exact va_gets hx hb hK.2.2.2.2 hw.2.2 hown (hts _ h1) (fun _ h => h) hdg kk
theorem gStrLen (C0 : gX p s m args meth c cc nL ret own g A) (hw : gW g A s ws H locs) (hdg : decode cc pc = .ok (.arraylength, 1))
    (kk : W p l e R s m args below meth c H locs 0 0 Q (F0 m (pc + 1) ls (.int 4 :: rest))) : W p l e R s m args below meth c H locs 0 0 Q (F0 m pc ls (.ref (gSV g) :: rest)) := by
  obtain ⟨hx, hb, hr, hml, hown, hts, hlocks, hK, hA⟩ := C0
  exact va_tlen hx hb (hK.2.2.2.1.1 0 (by decide)).2.2.2 hw.2.2 (by decide) hdg kk
theorem gStrAld (C0 : gX p s m args meth c cc nL ret own g A) (hw : gW g A s ws H locs) {i : Int32} (hin : vp_in i 4) (hdg : decode cc pc = .ok (.baload, 1))
    (kk : W p l e R s m args below meth c H locs 0 0 Q (F0 m (pc + 1) ls (.int (ptlsB i.toNatClampNeg) :: rest))) : W p l e R s m args below meth c H locs 0 0 Q (F0 m pc ls (.int i :: .ref (gSV g) :: rest)) := by
  obtain ⟨hx, hb, hr, hml, hown, hts, hlocks, hK, hA⟩ := C0
  exact va_tb hx hb (hK.2.2.2.1.1 0 (by decide)).2.2.2 hw.2.2 hin rfl hdg kk
end GB
/-! ENTRY AND CALLS -/
theorem gStr.narrow {g : gG} {A B : Nat → Prop} {U : State} {H : Heap} (h : gStr g A U H) (hAB : ∀ q, B q → A q) : gStr g B U H := ⟨h.1, h.2.1.narrow hAB, h.2.2.narrow hAB⟩
theorem gK.warm {g : gG} {A B : Nat → Prop} {s U : State} {H : Heap} {locs : List Loc} (hW : s.WarmedH U.vm) (hU : U.heap = H) (hS : va_S A s.heap H locs) (hAB : ∀ q, B q → A q) (h : gK g A s s.heap) : gK g B U U.heap := by
  obtain ⟨h1, h2, h3, h4, h5⟩ := h
  rw [hU]
  exact ⟨va_K.moved hW.alike h1, fun q hq => (h2 q hq).warmM hW, vk_R.warm hW h3, ((h4.moved hW.alike).kept hS.2.1).narrow hAB, ((h5.moved hW.alike).kept hS.2.1).narrow hAB⟩
theorem gK.calling {g : gG} {A : Nat → Prop} {U : State} {f : JFrame} {mk : MethodId} {a : Array Value} (h : gK g A U U.heap) : gK g A (U.calling f mk a) (U.calling f mk a).heap := by
  obtain ⟨h1, h2, h3, h4, h5⟩ := h
  exact ⟨va_K.moved (u := U) (U := U.calling f mk a) (Vm.Alike.refl U.vm) h1, fun q hq => (h2 q hq).same rfl rfl, vk_R.same rfl h3, h4.moved (Vm.Alike.refl U.vm), h5.moved (Vm.Alike.refl U.vm)⟩
theorem gPre.blind {g : gG} {sz : Nat} {ws : va_W} {av : List Value} : FrameBlind (va_Pc av (gPre g sz ws)) :=
  fun a U f mk q => by obtain ⟨q0, q1, qP, qK, qD⟩ := q; exact ⟨q0, q1, qP, qK.calling, qD⟩
theorem gWs_good {y : MethodName} {cc : ByteArray} {maxL : Nat} {ret : Option FieldType} (h : Cond.code y cc maxL ret ∈ gWs) : GoodIn gWs (.code y cc maxL ret :: gWs) := by
  intro w hw
  rcases List.mem_cons.mp hw with rfl | hw
  · exact ⟨h, gWs_word _ h⟩
  · exact ⟨hw, gWs_word _ hw⟩
section GE
variable {l : Launch} {y : MethodName} {cc : ByteArray} {maxL : Nat} {ret : Option FieldType} {rm : Room} {g : gG} {sz : Nat} {av : List Value} {ws ws' : va_W}
theorem gEnterI {r : Int32} (hy : plainName y.cls = true) (hlen : (lg_sl av).length ≤ maxL)
    (k : ∀ (p : Program) (e : Env) (s : State) (m : MethodId) (below : List Frame) (meth : Method) (c : Code) (A : Nat → Prop), gX p s m av.toArray meth c cc maxL ret y.cls g A → gW g A s ws s.heap [] → ∀ ls : Array Slot, lv_has ls maxL (lv_args 0 av) → W p l e rm s m av.toArray below meth c s.heap [] 0 0 (gQi below av.toArray s A g r ws') (F0 m 0 ls [])) : gMi l y cc maxL ret rm g sz av ws r ws' := by
  refine Met.ofW (cc := cc) (maxL := maxL) (ret := ret) hy rfl ?_
  intro p e s m args below meth c s₁ B hml hv
  obtain ⟨rfl, hsz, hP, hK, hD0⟩ := hv
  have hts0 := atoms_spec (ws := .code y cc maxL ret :: gWs) B.pre
  subst hsz
  rw [lg_entry_eq]
  exact k p e s m below meth c (va_A ws s.heap.size) ⟨B.exec, B.bytes, B.returns, hml, findClass_of_methodNamed B.named, fun w hw => hts0 w (List.mem_cons_of_mem _ hw), B.notSynchronized, hK, fun q h => Or.inr h⟩ ⟨hP, hD0.self, va_S.rf⟩ _ (lv_entry av (n := maxL) hlen)
theorem gEnterL {r : Int64} (hy : plainName y.cls = true) (hlen : (lg_sl av).length ≤ maxL)
    (k : ∀ (p : Program) (e : Env) (s : State) (m : MethodId) (below : List Frame) (meth : Method) (c : Code) (A : Nat → Prop), gX p s m av.toArray meth c cc maxL ret y.cls g A → gW g A s ws s.heap [] → ∀ ls : Array Slot, lv_has ls maxL (lv_args 0 av) → W p l e rm s m av.toArray below meth c s.heap [] 0 0 (gQl below av.toArray s A g r ws') (F0 m 0 ls [])) : gMl l y cc maxL ret rm g sz av ws r ws' := by
  refine Met.ofW (cc := cc) (maxL := maxL) (ret := ret) hy rfl ?_
  intro p e s m args below meth c s₁ B hml hv
  obtain ⟨rfl, hsz, hP, hK, hD0⟩ := hv
  have hts0 := atoms_spec (ws := .code y cc maxL ret :: gWs) B.pre
  subst hsz
  rw [lg_entry_eq]
  exact k p e s m below meth c (va_A ws s.heap.size) ⟨B.exec, B.bytes, B.returns, hml, findClass_of_methodNamed B.named, fun w hw => hts0 w (List.mem_cons_of_mem _ hw), B.notSynchronized, hK, fun q h => Or.inr h⟩ ⟨hP, hD0.self, va_S.rf⟩ _ (lv_entry av (n := maxL) hlen)
theorem gEnterV (hy : plainName y.cls = true) (hlen : (lg_sl av).length ≤ maxL)
    (k : ∀ (p : Program) (e : Env) (s : State) (m : MethodId) (below : List Frame) (meth : Method) (c : Code) (A : Nat → Prop), gX p s m av.toArray meth c cc maxL ret y.cls g A → gW g A s ws s.heap [] → ∀ ls : Array Slot, lv_has ls maxL (lv_args 0 av) → W p l e rm s m av.toArray below meth c s.heap [] 0 0 (gQv below av.toArray s A g ws') (F0 m 0 ls [])) : gMv l y cc maxL ret rm g sz av ws ws' := by
  refine Met.ofW (cc := cc) (maxL := maxL) (ret := ret) hy rfl ?_
  intro p e s m args below meth c s₁ B hml hv
  obtain ⟨rfl, hsz, hP, hK, hD0⟩ := hv
  have hts0 := atoms_spec (ws := .code y cc maxL ret :: gWs) B.pre
  subst hsz
  rw [lg_entry_eq]
  exact k p e s m below meth c (va_A ws s.heap.size) ⟨B.exec, B.bytes, B.returns, hml, findClass_of_methodNamed B.named, fun w hw => hts0 w (List.mem_cons_of_mem _ hw), B.notSynchronized, hK, fun q h => Or.inr h⟩ ⟨hP, hD0.self, va_S.rf⟩ _ (lv_entry av (n := maxL) hlen)
theorem gEnterR {ra : Nat} (hy : plainName y.cls = true) (hlen : (lg_sl av).length ≤ maxL)
    (k : ∀ (p : Program) (e : Env) (s : State) (m : MethodId) (below : List Frame) (meth : Method) (c : Code) (A : Nat → Prop), gX p s m av.toArray meth c cc maxL ret y.cls g A → gW g A s ws s.heap [] → ∀ ls : Array Slot, lv_has ls maxL (lv_args 0 av) → W p l e rm s m av.toArray below meth c s.heap [] 0 0 (gQr below av.toArray s A g ra ws') (F0 m 0 ls [])) : gMr l y cc maxL ret rm g sz av ws ra ws' := by
  refine Met.ofW (cc := cc) (maxL := maxL) (ret := ret) hy rfl ?_
  intro p e s m args below meth c s₁ B hml hv
  obtain ⟨rfl, hsz, hP, hK, hD0⟩ := hv
  have hts0 := atoms_spec (ws := .code y cc maxL ret :: gWs) B.pre
  subst hsz
  rw [lg_entry_eq]
  exact k p e s m below meth c (va_A ws s.heap.size) ⟨B.exec, B.bytes, B.returns, hml, findClass_of_methodNamed B.named, fun w hw => hts0 w (List.mem_cons_of_mem _ hw), B.notSynchronized, hK, fun q h => Or.inr h⟩ ⟨hP, hD0.self, va_S.rf⟩ _ (lv_entry av (n := maxL) hlen)
end GE
theorem gMapAt {ws wc : va_W} {is : List Nat} (hs : is.map (fun i => ws[i]?) = wc.map some) {k : Nat} {q : Nat × va_E} (hq : wc[k]? = some q) : ∃ i, is[k]? = some i ∧ ws[i]? = some q := by
  have h1 : (is.map (fun i => ws[i]?))[k]? = some (some q) := by rw [hs, List.getElem?_map, hq]; rfl
  rw [List.getElem?_map] at h1
  cases hi : is[k]? with
  | none => rw [hi] at h1; cases h1
  | some i => rw [hi] at h1; exact ⟨i, rfl, Option.some.inj h1⟩
theorem gMapAt2 {ws wc : va_W} {is : List Nat} (hs : is.map (fun i => ws[i]?) = wc.map some) {k i : Nat} {q : Nat × va_E} (hi : is[k]? = some i) (hq : ws[i]? = some q) : wc[k]? = some q := by
  have h1 : (wc.map some)[k]? = some (some q) := by rw [← hs, List.getElem?_map, hi]; exact congrArg some hq
  rw [List.getElem?_map] at h1
  cases hc : wc[k]? with
  | none => rw [hc] at h1; cases h1
  | some x => rw [hc] at h1; exact Option.some.inj h1
/-- behind a call: the world with the callee's cells as they are now, in their old places -/
theorem gJoin {D : va_G} {A : Nat → Prop} {ws wc w1 ws' : va_W} {H H1 : Heap} (hP : va_P D vwCl ws H) (hD : va_D A ws) (isC isR : List Nat) (h2 : isC.map (fun i => ws[i]?) = wc.map some) (h3 : isC.map (fun i => ws'[i]?) = w1.map some) (h4 : isR.map (fun i => ws'[i]?) = isR.map (fun i => ws[i]?)) (h1 : ws'.map Prod.fst = ws.map Prod.fst) (hn : (List.range ws.length).all (fun i => isC.contains i || isR.contains i) = true)
    (hk : ∀ q : Nat, q < H.size → ¬ va_A wc H.size q → H1[q]? = H[q]?) (hP1 : va_P D vwCl w1 H1) : va_P D vwCl ws' H1 ∧ va_D A ws' := by
  have hfst : ∀ (k : Nat) (q : Nat × va_E), ws'[k]? = some q → ∃ q', ws[k]? = some q' ∧ q'.1 = q.1 := by
    intro k q hq
    have e : (ws'.map Prod.fst)[k]? = some q.1 := by rw [List.getElem?_map, hq]; rfl
    rw [h1, List.getElem?_map] at e
    cases hc : ws[k]? with
    | none => rw [hc] at e; cases e
    | some x => rw [hc] at e; exact ⟨x, rfl, Option.some.inj e⟩
  refine ⟨fun k q hq => ?_, fun i j p q hi hj hpq => ?_, fun k q hq => ?_⟩
  · by_cases hkc : k ∈ isC
    · obtain ⟨j, hj⟩ := List.getElem?_of_mem hkc
      exact hP1 j q (gMapAt2 h3 hj hq)
    · obtain ⟨q', hq', -⟩ := hfst k q hq
      have hlt : k < ws.length := (List.getElem?_eq_some_iff.mp hq').1
      have hm := List.all_eq_true.mp hn k (List.mem_range.mpr hlt)
      have hkr : k ∈ isR := by
        rcases Bool.or_eq_true_iff.mp hm with h | h
        · exact absurd (List.contains_iff_mem.mp h) hkc
        · exact List.contains_iff_mem.mp h
      obtain ⟨j, hj⟩ := List.getElem?_of_mem hkr
      have e : (isR.map (fun i => ws'[i]?))[j]? = (isR.map (fun i => ws[i]?))[j]? := by rw [h4]
      rw [List.getElem?_map, List.getElem?_map, hj] at e
      have e2 : ws'[k]? = ws[k]? := Option.some.inj e
      rw [hq] at e2
      have hat := hP k q e2.symm
      refine hat.kept (hk q.1 hat.lt ?_)
      intro hA
      rcases hA with ⟨k2, e3, he3⟩ | hge
      · obtain ⟨i, hi, hwi⟩ := gMapAt h2 he3
        have := hD.1 k i q (q.1, e3) e2.symm hwi rfl
        subst this
        exact hkc (List.mem_of_getElem? hi)
      · exact absurd hat.lt (Nat.not_lt.mpr hge)
  · obtain ⟨p', hp', ep⟩ := hfst i p hi
    obtain ⟨q', hq', eq⟩ := hfst j q hj
    exact hD.1 i j p' q' hp' hq' (by rw [ep, eq, hpq])
  · obtain ⟨q', hq', eq⟩ := hfst k q hq
    have := hD.2 k q' hq'
    rw [eq] at this
    exact this
section GC
variable {p : Program} {l : Launch} {e : Env} {R : Room} {s : State} {m : MethodId} {args : Array Value} {below : List Frame} {meth : Method} {c : Code} {H : Heap} {locs : List Loc} {Q : State → Prop} {cc : ByteArray} {nL : Nat} {ret : Option FieldType} {own : String} {g : gG} {A : Nat → Prop} {pc : Nat} {ls : Array Slot} {rest st0 As : List Value} {ws ws' wc w1 : va_W} {a : Nat}
variable {y : MethodName} {cb : ByteArray} {mL n index : Nat} {rt : Option FieldType} {rm : Room} {Qc : Array Value → State → Outcome → State → Prop}
theorem gPreAt (C0 : gX p s m args meth c cc nL ret own g A) (hw : gW g A s ws H locs) (isC : List Nat) (hnd : va_nd isC = true) (hC : isC.map (fun i => ws[i]?) = wc.map some) (U : State) (hU : U.heap = H) (hW : s.WarmedH U.vm) : gPre g H.size wc U := by
  obtain ⟨hx, hb, hr, hml, hown, hts, hlocks, hK, hA⟩ := C0
  obtain ⟨hP, hD, hS⟩ := hw
  refine ⟨by rw [hU], ?_, hK.warm hW hU hS (va_free hD hS hA isC hC), (hD.sub isC hnd hC).weaken (fun _ _ _ _ => trivial)⟩
  rw [hU]
  intro k q hq
  obtain ⟨i, -, hi⟩ := gMapAt hC hq
  exact hP i q hi
theorem gRunV (C0 : gX p s m args meth c cc nL ret own g A) (hw : gW g A s ws H locs) (hL : gLinkV own index y cb mL rt n) (hM : Met l y (.code y cb mL rt :: gWs) rm (va_Pc (.ref a :: As) (gPre g H.size wc)) Qc 0 0 (va_A wc H.size)) (hrm : rm.cells = 0 ∧ rm.slots = 0) (hR : rm.frames + 1 ≤ R.frames ∧ 8 + (mL + 11) + rm.locals ≤ R.locals) (isC : List Nat) (hnd : va_nd isC = true) (hC : isC.map (fun i => ws[i]?) = wc.map some) (q0 : Nat) {ci N : Nat} {T : u_T} {fs : List Value} (he : ws[q0]? = some (a, .inr (ci, fs))) (hc : vwCl[ci]? = some (y.cls, T, N)) (hn : As.length = n) (hls : ls.size = nL) (hstk : st0 = As.reverse ++ .ref a :: rest) (hst : (rest.map fun v => v.category).sum ≤ 8) (hdg : decode cc pc = .ok (.invokevirtual index, 3)) :
    va_Run p l e R s m args below meth c H locs 0 0 0 0 (F0 m pc ls st0) rest (Qc (Value.ref a :: As).toArray) (va_A wc H.size) := by
  obtain ⟨l1, l2, l3, l4, l5, l6⟩ := hL
  have hpre := gPreAt C0 hw isC hnd hC
  obtain ⟨hx, hb, hr, hml, hown, hts, hlocks, hK, hA⟩ := C0
  exact va_runV (n := n) (bytes := cb) (maxL := mL) (ret := rt) (C := y.cls) ⟨hx, hb, hml, hown, hts⟩ hM ⟨callB_of n hts (gWs_good l5) rfl hrm.1 hrm.2 (hts _ l4) (hts _ l1) l6 hR, hts _ l2, hts _ l3⟩ ⟨gPre.blind, va_recv hK.1 hw.1 hc he, fun U hU hW => ⟨rfl, hpre U hU hW⟩⟩ rfl hn hls hstk (lv_room hst) hdg ⟨Nat.zero_le _, Nat.zero_le _⟩
/-- a method of the String constant -/
theorem gRunStr (C0 : gX p s m args meth c cc nL ret own g A) (hw : gW g A s ws H locs) (hL : gLinkV own index y cb mL rt n) (hy : y.cls = "java/lang/String") (hM : Met l y (.code y cb mL rt :: gWs) rm (va_Pc (.ref (gSK g) :: As) (gPre g H.size wc)) Qc 0 0 (va_A wc H.size)) (hrm : rm.cells = 0 ∧ rm.slots = 0) (hR : rm.frames + 1 ≤ R.frames ∧ 8 + (mL + 11) + rm.locals ≤ R.locals) (isC : List Nat) (hnd : va_nd isC = true) (hC : isC.map (fun i => ws[i]?) = wc.map some) (hn : As.length = n) (hls : ls.size = nL) (hstk : st0 = As.reverse ++ .ref (gSK g) :: rest) (hst : (rest.map fun v => v.category).sum ≤ 8) (hdg : decode cc pc = .ok (.invokevirtual index, 3)) :
    va_Run p l e R s m args below meth c H locs 0 0 0 0 (F0 m pc ls st0) rest (Qc (Value.ref (gSK g) :: As).toArray) (va_A wc H.size) := by
  obtain ⟨l1, l2, l3, l4, l5, l6⟩ := hL
  have hpre := gPreAt C0 hw isC hnd hC
  obtain ⟨hx, hb, hr, hml, hown, hts, hlocks, hK, hA⟩ := C0
  have hrec := vk_recv hK.2.2.2.1 (i := 0) (by decide) hw.2.2
  rw [← hy] at hrec
  exact va_runV (n := n) (bytes := cb) (maxL := mL) (ret := rt) (C := y.cls) ⟨hx, hb, hml, hown, hts⟩ hM ⟨callB_of n hts (gWs_good l5) rfl hrm.1 hrm.2 (hts _ l4) (hts _ l1) l6 hR, hts _ l2, hts _ l3⟩ ⟨gPre.blind, hrec, fun U hU hW => ⟨rfl, hpre U hU hW⟩⟩ rfl hn hls hstk (lv_room hst) hdg ⟨Nat.zero_le _, Nat.zero_le _⟩
theorem gRunS (C0 : gX p s m args meth c cc nL ret own g A) (hw : gW g A s ws H locs) (hL : gLinkS own index y cb mL rt n) (hM : Met l y (.code y cb mL rt :: gWs) rm (va_Pc As (gPre g H.size wc)) Qc 0 0 (va_A wc H.size)) (hrm : rm.cells = 0 ∧ rm.slots = 0) (hR : rm.frames + 1 ≤ R.frames ∧ 8 + (mL + 11) + rm.locals ≤ R.locals) (isC : List Nat) (hnd : va_nd isC = true) (hC : isC.map (fun i => ws[i]?) = wc.map some) (hn : As.length = n) (hls : ls.size = nL) (hstk : st0 = As.reverse ++ rest) (hst : (rest.map fun v => v.category).sum ≤ 8) (hdg : decode cc pc = .ok (.invokestatic index, 3)) :
    va_Run p l e R s m args below meth c H locs 0 0 0 0 (F0 m pc ls st0) rest (Qc As.toArray) (va_A wc H.size) := by
  obtain ⟨l1, l2, l4, l5, l6⟩ := hL
  have hpre := gPreAt C0 hw isC hnd hC
  obtain ⟨hx, hb, hr, hml, hown, hts, hlocks, hK, hA⟩ := C0
  exact va_runS (n := n) (bytes := cb) (maxL := mL) (ret := rt) ⟨hx, hb, hml, hown, hts⟩ hM ⟨callB_of n hts (gWs_good l5) rfl hrm.1 hrm.2 (hts _ l4) (hts _ l1) l6 hR, hts _ l2⟩ ⟨gPre.blind, fun U hU hW => ⟨rfl, hpre U hU hW⟩⟩ rfl hn hls hstk (lv_room hst) hdg ⟨Nat.zero_le _, Nat.zero_le _⟩
theorem gRunN (C0 : gX p s m args meth c cc nL ret own g A) (hw : gW g A s ws H locs) (hL : gLinkN own index y cb mL rt n) (hM : Met l y (.code y cb mL rt :: gWs) rm (va_Pc As (gPre g H.size wc)) Qc 0 0 (va_A wc H.size)) (hrm : rm.cells = 0 ∧ rm.slots = 0) (hR : rm.frames + 1 ≤ R.frames ∧ 8 + (mL + 11) + rm.locals ≤ R.locals) (isC : List Nat) (hnd : va_nd isC = true) (hC : isC.map (fun i => ws[i]?) = wc.map some) (hn : As.length = n) (hls : ls.size = nL) (hstk : st0 = As.reverse ++ rest) (hst : (rest.map fun v => v.category).sum ≤ 8) (hdg : decode cc pc = .ok (.invokestatic index, 3)) :
    va_Run p l e R s m args below meth c H locs 0 0 0 0 (F0 m pc ls st0) rest (Qc As.toArray) (va_A wc H.size) := by
  obtain ⟨l1, l2, l4, l5, l6⟩ := hL
  have hpre := gPreAt C0 hw isC hnd hC
  obtain ⟨hx, hb, hr, hml, hown, hts, hlocks, hK, hA⟩ := C0
  exact va_runSN (n := n) (bytes := cb) (maxL := mL) (ret := rt) (host := "WallHands") ⟨hx, hb, hml, hown, hts⟩ hM ⟨va_cnB n hts (gWs_good l5) rfl hrm.1 hrm.2 (hK.2.1 _ l1) (hts _ l4) l6 hR, hts _ l2, trivial⟩ ⟨gPre.blind, fun U hU hW => ⟨rfl, hpre U hU hW⟩⟩ rfl hn hls hstk (lv_room hst) hdg ⟨Nat.zero_le _, Nat.zero_le _⟩
theorem gCalli (C0 : gX p s m args meth c cc nL ret own g A) (hw : gW g A s ws H locs) {av : Array Value} {r : Int32} (hr : va_Run p l e R s m args below meth c H locs 0 0 0 0 (F0 m pc ls st0) rest (va_Qi (fun v (_ : Unit) => v = r) (gB g w1) (va_A wc H.size) av) (va_A wc H.size)) (isC isR : List Nat) (h2 : isC.map (fun i => ws[i]?) = wc.map some) (h3 : isC.map (fun i => ws'[i]?) = w1.map some) (h4 : isR.map (fun i => ws'[i]?) = isR.map (fun i => ws[i]?)) (h1 : ws'.map Prod.fst = ws.map Prod.fst) (hn : (List.range ws.length).all (fun i => isC.contains i || isR.contains i) = true)
    (kk : ∀ (H : Heap) (locs : List Loc), gW g A s ws' H locs → W p l e R s m args below meth c H locs 0 0 Q (F0 m (pc + 3) ls (.int r :: rest))) : W p l e R s m args below meth c H locs 0 0 Q (F0 m pc ls st0) := by
  obtain ⟨hx, hb, hr0, hml, hown, hts, hlocks, hK, hA⟩ := C0
  obtain ⟨hP, hD, hS⟩ := hw
  have hF := va_free hD hS hA isC h2
  refine va_calli hr hS (fun q _ h => hF q h) hF (fun r1 u t H1 locs1 ht hvm hp hB hz hk hS1 => ?_)
  subst hp
  have hP1 : va_P g.1 vwCl w1 H1 := by rw [← ht]; exact hB
  obtain ⟨h5, h6⟩ := gJoin hP hD isC isR h2 h3 h4 h1 hn hk hP1
  exact kk H1 locs1 ⟨h5, h6, hS1⟩
theorem gCalll (C0 : gX p s m args meth c cc nL ret own g A) (hw : gW g A s ws H locs) {av : Array Value} {r : Int64} (hr : va_Run p l e R s m args below meth c H locs 0 0 0 0 (F0 m pc ls st0) rest (va_Ql (fun v (_ : Unit) => v = r) (gB g w1) (va_A wc H.size) av) (va_A wc H.size)) (isC isR : List Nat) (h2 : isC.map (fun i => ws[i]?) = wc.map some) (h3 : isC.map (fun i => ws'[i]?) = w1.map some) (h4 : isR.map (fun i => ws'[i]?) = isR.map (fun i => ws[i]?)) (h1 : ws'.map Prod.fst = ws.map Prod.fst) (hn : (List.range ws.length).all (fun i => isC.contains i || isR.contains i) = true)
    (kk : ∀ (H : Heap) (locs : List Loc), gW g A s ws' H locs → W p l e R s m args below meth c H locs 0 0 Q (F0 m (pc + 3) ls (.long r :: rest))) : W p l e R s m args below meth c H locs 0 0 Q (F0 m pc ls st0) := by
  obtain ⟨hx, hb, hr0, hml, hown, hts, hlocks, hK, hA⟩ := C0
  obtain ⟨hP, hD, hS⟩ := hw
  have hF := va_free hD hS hA isC h2
  refine va_calll hr hS (fun q _ h => hF q h) hF (fun r1 u t H1 locs1 ht hvm hp hB hz hk hS1 => ?_)
  subst hp
  have hP1 : va_P g.1 vwCl w1 H1 := by rw [← ht]; exact hB
  obtain ⟨h5, h6⟩ := gJoin hP hD isC isR h2 h3 h4 h1 hn hk hP1
  exact kk H1 locs1 ⟨h5, h6, hS1⟩
theorem gCallv (C0 : gX p s m args meth c cc nL ret own g A) (hw : gW g A s ws H locs) {av : Array Value} (hr : va_Run p l e R s m args below meth c H locs 0 0 0 0 (F0 m pc ls st0) rest (va_Qv (fun (_ : Unit) => True) (gB g w1) (va_A wc H.size) av) (va_A wc H.size)) (isC isR : List Nat) (h2 : isC.map (fun i => ws[i]?) = wc.map some) (h3 : isC.map (fun i => ws'[i]?) = w1.map some) (h4 : isR.map (fun i => ws'[i]?) = isR.map (fun i => ws[i]?)) (h1 : ws'.map Prod.fst = ws.map Prod.fst) (hn : (List.range ws.length).all (fun i => isC.contains i || isR.contains i) = true)
    (kk : ∀ (H : Heap) (locs : List Loc), gW g A s ws' H locs → W p l e R s m args below meth c H locs 0 0 Q (F0 m (pc + 3) ls rest)) : W p l e R s m args below meth c H locs 0 0 Q (F0 m pc ls st0) := by
  obtain ⟨hx, hb, hr0, hml, hown, hts, hlocks, hK, hA⟩ := C0
  obtain ⟨hP, hD, hS⟩ := hw
  have hF := va_free hD hS hA isC h2
  refine va_callv hr hS (fun q _ h => hF q h) hF (fun u t H1 locs1 ht hvm hp hB hz hk hS1 => ?_)
  have hP1 : va_P g.1 vwCl w1 H1 := by rw [← ht]; exact hB
  obtain ⟨h5, h6⟩ := gJoin hP hD isC isR h2 h3 h4 h1 hn hk hP1
  exact kk H1 locs1 ⟨h5, h6, hS1⟩
theorem gCallr (C0 : gX p s m args meth c cc nL ret own g A) (hw : gW g A s ws H locs) {av : Array Value} {ra : Nat} (hr : va_Run p l e R s m args below meth c H locs 0 0 0 0 (F0 m pc ls st0) rest (va_Qr (fun (_ : Unit) => True) (gBr g ra w1) (va_A wc H.size) av) (va_A wc H.size)) (isC isR : List Nat) (h2 : isC.map (fun i => ws[i]?) = wc.map some) (h3 : isC.map (fun i => ws'[i]?) = w1.map some) (h4 : isR.map (fun i => ws'[i]?) = isR.map (fun i => ws[i]?)) (h1 : ws'.map Prod.fst = ws.map Prod.fst) (hn : (List.range ws.length).all (fun i => isC.contains i || isR.contains i) = true)
    (kk : ∀ (H : Heap) (locs : List Loc), gW g A s ws' H locs → W p l e R s m args below meth c H locs 0 0 Q (F0 m (pc + 3) ls (.ref ra :: rest))) : W p l e R s m args below meth c H locs 0 0 Q (F0 m pc ls st0) := by
  obtain ⟨hx, hb, hr0, hml, hown, hts, hlocks, hK, hA⟩ := C0
  obtain ⟨hP, hD, hS⟩ := hw
  have hF := va_free hD hS hA isC h2
  refine va_callr hr hS (fun q _ h => hF q h) hF (fun u r1 t H1 locs1 ht hvm hp hB hz hk hS1 => ?_)
  obtain ⟨rfl, hB⟩ := hB
  have hP1 : va_P g.1 vwCl w1 H1 := by rw [← ht]; exact hB
  obtain ⟨h5, h6⟩ := gJoin hP hD isC isR h2 h3 h4 h1 hn hk hP1
  exact kk H1 locs1 ⟨h5, h6, hS1⟩
/-- a table's row that is taken, by its number; and none -/
theorem gSw (C0 : gX p s m args meth c cc nL ret own g A) {x y : Int32} (hxy : x = y) {dflt lo hi off : Int} {offs : Array Int} {len tgt : Nat} (hdg : decode cc pc = .ok (.tableswitch dflt lo hi offs, len)) (h : (decide (lo ≤ y.toInt) && decide (y.toInt ≤ hi)) = true ∧ offs[(y.toInt - lo).toNat]? = some off ∧ (pc : Int) + off = (tgt : Int))
    (kk : W p l e R s m args below meth c H locs 0 0 Q (F0 m tgt ls rest)) : W p l e R s m args below meth c H locs 0 0 Q (F0 m pc ls (.int x :: rest)) := by
  obtain ⟨hx, hb, hr0, hml, hown, hts, hlocks, hK, hA⟩ := C0
  subst hxy
  obtain ⟨h1, h2, h3⟩ := h
  simp only [Bool.and_eq_true, decide_eq_true_eq] at h1
  exact lv_tableIn hx hb hdg (Int.not_lt.mpr h1.1) (Int.not_lt.mpr h1.2) h2 h3 kk
theorem gSwD (C0 : gX p s m args meth c cc nL ret own g A) {x : Int32} {dflt lo hi : Int} {offs : Array Int} {len tgt : Nat} (hdg : decode cc pc = .ok (.tableswitch dflt lo hi offs, len)) (h : ∀ k : Nat, k < (hi - lo + 1).toNat → ¬ x.toInt = lo + k) (ht : (pc : Int) + dflt = (tgt : Int))
    (kk : W p l e R s m args below meth c H locs 0 0 Q (F0 m tgt ls rest)) : W p l e R s m args below meth c H locs 0 0 Q (F0 m pc ls (.int x :: rest)) := by
  obtain ⟨hx, hb, hr0, hml, hown, hts, hlocks, hK, hA⟩ := C0
  refine lv_tableOut hx hb hdg ?_ ht kk
  by_cases h1 : x.toInt < lo
  · exact Or.inl h1
  · by_cases h2 : hi < x.toInt
    · exact Or.inr h2
    · exact absurd (by omega) (h (x.toInt - lo).toNat (by omega))
end GC
theorem gSwN {x : Int32} {n : Nat} {c : Nat → Int32} (hc : ∀ k : Nat, k < n → ¬ x = c k) {lo : Int} (hl : ∀ k : Nat, k < n → (c k).toInt = lo + k) : ∀ k : Nat, k < n → ¬ x.toInt = lo + k := by
  intro k hk h
  exact hc k hk (Int32.toInt_inj.mp (by rw [h, hl k hk]))
end
