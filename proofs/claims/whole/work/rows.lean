section
-- ===== PART A: goes FIRST, ahead of the names: the tables' words, and 'selects' of the private methods out of them =====
/-- a private method of a class that the tables say can be made, by its rows of tables_1 -/
def lw_okq (q : MethodName × Nat) : Prop := (q.1.cls ≠ "java/lang/invoke/MethodHandle" ∧ q.1.cls ≠ "java/lang/invoke/VarHandle") ∧ Cond.instantiable q.1.cls q.2 ∈ tables_1 ∧ Cond.privateMethod q.1 ∈ tables_1 ∧ Cond.instanceMethod q.1 ∈ tables_1
theorem lw_p0 : lw_okq (⟨"StoneApologies", "layOut", "()V"⟩, 9) := ⟨⟨by decide +kernel, by decide +kernel⟩, List.mem_of_getElem? (i := 16) (by decide +kernel), List.mem_of_getElem? (i := 266) (by decide +kernel), List.mem_of_getElem? (i := 267) (by decide +kernel)⟩
theorem lw_p1 : lw_okq (⟨"StoneApologies$Text", "readItem", "(LStoneApologies$Bed;)Z"⟩, 4) := ⟨⟨by decide +kernel, by decide +kernel⟩, List.mem_of_getElem? (i := 24) (by decide +kernel), List.mem_of_getElem? (i := 281) (by decide +kernel), List.mem_of_getElem? (i := 282) (by decide +kernel)⟩
theorem lw_p2 : lw_okq (⟨"StoneApologies$Text", "letterAt", "(I)I"⟩, 4) := ⟨⟨by decide +kernel, by decide +kernel⟩, List.mem_of_getElem? (i := 24) (by decide +kernel), List.mem_of_getElem? (i := 285) (by decide +kernel), List.mem_of_getElem? (i := 286) (by decide +kernel)⟩
theorem lw_p3 : lw_okq (⟨"StoneApologies$Text", "readNumbers", "()I"⟩, 4) := ⟨⟨by decide +kernel, by decide +kernel⟩, List.mem_of_getElem? (i := 24) (by decide +kernel), List.mem_of_getElem? (i := 289) (by decide +kernel), List.mem_of_getElem? (i := 290) (by decide +kernel)⟩
theorem lw_p4 : lw_okq (⟨"StoneApologies$Text", "readNumber", "()I"⟩, 4) := ⟨⟨by decide +kernel, by decide +kernel⟩, List.mem_of_getElem? (i := 24) (by decide +kernel), List.mem_of_getElem? (i := 293) (by decide +kernel), List.mem_of_getElem? (i := 294) (by decide +kernel)⟩
theorem lw_p5 : lw_okq (⟨"StoneApologies$Bed", "plainWorth", "(II)I"⟩, 12) := ⟨⟨by decide +kernel, by decide +kernel⟩, List.mem_of_getElem? (i := 45) (by decide +kernel), List.mem_of_getElem? (i := 332) (by decide +kernel), List.mem_of_getElem? (i := 333) (by decide +kernel)⟩
theorem lw_p6 : lw_okq (⟨"StoneApologies$Bed", "spokenWorth", "(IIII)I"⟩, 12) := ⟨⟨by decide +kernel, by decide +kernel⟩, List.mem_of_getElem? (i := 45) (by decide +kernel), List.mem_of_getElem? (i := 342) (by decide +kernel), List.mem_of_getElem? (i := 343) (by decide +kernel)⟩
theorem lw_p7 : lw_okq (⟨"StoneApologies", "isBlock", "(I)Z"⟩, 9) := ⟨⟨by decide +kernel, by decide +kernel⟩, List.mem_of_getElem? (i := 16) (by decide +kernel), List.mem_of_getElem? (i := 411) (by decide +kernel), List.mem_of_getElem? (i := 412) (by decide +kernel)⟩
theorem lw_p8 : lw_okq (⟨"StoneApologies", "isWord", "(I)Z"⟩, 9) := ⟨⟨by decide +kernel, by decide +kernel⟩, List.mem_of_getElem? (i := 16) (by decide +kernel), List.mem_of_getElem? (i := 420) (by decide +kernel), List.mem_of_getElem? (i := 421) (by decide +kernel)⟩
theorem lw_p9 : lw_okq (⟨"StoneApologies", "isSpeaker", "(I)Z"⟩, 9) := ⟨⟨by decide +kernel, by decide +kernel⟩, List.mem_of_getElem? (i := 16) (by decide +kernel), List.mem_of_getElem? (i := 428) (by decide +kernel), List.mem_of_getElem? (i := 429) (by decide +kernel)⟩
theorem lw_p10 : lw_okq (⟨"StoneApologies", "isSaying", "(III)Z"⟩, 9) := ⟨⟨by decide +kernel, by decide +kernel⟩, List.mem_of_getElem? (i := 16) (by decide +kernel), List.mem_of_getElem? (i := 455) (by decide +kernel), List.mem_of_getElem? (i := 456) (by decide +kernel)⟩
theorem lw_p11 : lw_okq (⟨"StoneApologies$Quarry", "hearsThrough", "(II)Z"⟩, 8) := ⟨⟨by decide +kernel, by decide +kernel⟩, List.mem_of_getElem? (i := 108) (by decide +kernel), List.mem_of_getElem? (i := 492) (by decide +kernel), List.mem_of_getElem? (i := 493) (by decide +kernel)⟩
theorem lw_p12 : lw_okq (⟨"StoneApologies$Quarry", "soften", "(II)V"⟩, 8) := ⟨⟨by decide +kernel, by decide +kernel⟩, List.mem_of_getElem? (i := 108) (by decide +kernel), List.mem_of_getElem? (i := 500) (by decide +kernel), List.mem_of_getElem? (i := 501) (by decide +kernel)⟩
theorem lw_p13 : lw_okq (⟨"StoneApologies$Quarry", "belies", "(III)Z"⟩, 8) := ⟨⟨by decide +kernel, by decide +kernel⟩, List.mem_of_getElem? (i := 108) (by decide +kernel), List.mem_of_getElem? (i := 529) (by decide +kernel), List.mem_of_getElem? (i := 530) (by decide +kernel)⟩
theorem lw_p14 : lw_okq (⟨"StoneApologies$Rows", "shift", "(IIIII)V"⟩, 2) := ⟨⟨by decide +kernel, by decide +kernel⟩, List.mem_of_getElem? (i := 169) (by decide +kernel), List.mem_of_getElem? (i := 581) (by decide +kernel), List.mem_of_getElem? (i := 582) (by decide +kernel)⟩
theorem lw_p15 : lw_okq (⟨"StoneApologies$Quarry", "dearestWord", "(II)I"⟩, 8) := ⟨⟨by decide +kernel, by decide +kernel⟩, List.mem_of_getElem? (i := 108) (by decide +kernel), List.mem_of_getElem? (i := 629) (by decide +kernel), List.mem_of_getElem? (i := 630) (by decide +kernel)⟩
def lw_privs_1 : List (MethodName × Nat) := [(⟨"StoneApologies", "layOut", "()V"⟩, 9), (⟨"StoneApologies$Text", "readItem", "(LStoneApologies$Bed;)Z"⟩, 4), (⟨"StoneApologies$Text", "letterAt", "(I)I"⟩, 4), (⟨"StoneApologies$Text", "readNumbers", "()I"⟩, 4), (⟨"StoneApologies$Text", "readNumber", "()I"⟩, 4), (⟨"StoneApologies$Bed", "plainWorth", "(II)I"⟩, 12), (⟨"StoneApologies$Bed", "spokenWorth", "(IIII)I"⟩, 12), (⟨"StoneApologies", "isBlock", "(I)Z"⟩, 9), (⟨"StoneApologies", "isWord", "(I)Z"⟩, 9), (⟨"StoneApologies", "isSpeaker", "(I)Z"⟩, 9), (⟨"StoneApologies", "isSaying", "(III)Z"⟩, 9), (⟨"StoneApologies$Quarry", "hearsThrough", "(II)Z"⟩, 8), (⟨"StoneApologies$Quarry", "soften", "(II)V"⟩, 8), (⟨"StoneApologies$Quarry", "belies", "(III)Z"⟩, 8), (⟨"StoneApologies$Rows", "shift", "(IIIII)V"⟩, 2), (⟨"StoneApologies$Quarry", "dearestWord", "(II)I"⟩, 8)]
theorem lw_r1 : ∀ q ∈ lw_privs_1, lw_okq q := List.forall_mem_cons.mpr ⟨lw_p0, List.forall_mem_cons.mpr ⟨lw_p1, List.forall_mem_cons.mpr ⟨lw_p2, List.forall_mem_cons.mpr ⟨lw_p3, List.forall_mem_cons.mpr ⟨lw_p4, List.forall_mem_cons.mpr ⟨lw_p5, List.forall_mem_cons.mpr ⟨lw_p6, List.forall_mem_cons.mpr ⟨lw_p7, List.forall_mem_cons.mpr ⟨lw_p8, List.forall_mem_cons.mpr ⟨lw_p9, List.forall_mem_cons.mpr ⟨lw_p10, List.forall_mem_cons.mpr ⟨lw_p11, List.forall_mem_cons.mpr ⟨lw_p12, List.forall_mem_cons.mpr ⟨lw_p13, List.forall_mem_cons.mpr ⟨lw_p14, List.forall_mem_cons.mpr ⟨lw_p15, fun _ h => absurd h List.not_mem_nil⟩⟩⟩⟩⟩⟩⟩⟩⟩⟩⟩⟩⟩⟩⟩⟩
theorem lw_p16 : lw_okq (⟨"StoneApologies$Quarry", "harmOf", "(II)I"⟩, 8) := ⟨⟨by decide +kernel, by decide +kernel⟩, List.mem_of_getElem? (i := 108) (by decide +kernel), List.mem_of_getElem? (i := 652) (by decide +kernel), List.mem_of_getElem? (i := 653) (by decide +kernel)⟩
theorem lw_p17 : lw_okq (⟨"StoneApologies$Quarry", "explainsOne", "(II)Z"⟩, 8) := ⟨⟨by decide +kernel, by decide +kernel⟩, List.mem_of_getElem? (i := 108) (by decide +kernel), List.mem_of_getElem? (i := 671) (by decide +kernel), List.mem_of_getElem? (i := 672) (by decide +kernel)⟩
theorem lw_p18 : lw_okq (⟨"StoneApologiesModel", "starts", "()V"⟩, 30) := ⟨⟨by decide +kernel, by decide +kernel⟩, List.mem_of_getElem? (i := 724) (by decide +kernel), List.mem_of_getElem? (i := 730) (by decide +kernel), List.mem_of_getElem? (i := 731) (by decide +kernel)⟩
theorem lw_p19 : lw_okq (⟨"StoneApologiesModel", "addsBlock", "(II)V"⟩, 30) := ⟨⟨by decide +kernel, by decide +kernel⟩, List.mem_of_getElem? (i := 724) (by decide +kernel), List.mem_of_getElem? (i := 734) (by decide +kernel), List.mem_of_getElem? (i := 735) (by decide +kernel)⟩
theorem lw_p20 : lw_okq (⟨"StoneApologiesModel", "addsWord", "(I)V"⟩, 30) := ⟨⟨by decide +kernel, by decide +kernel⟩, List.mem_of_getElem? (i := 724) (by decide +kernel), List.mem_of_getElem? (i := 738) (by decide +kernel), List.mem_of_getElem? (i := 739) (by decide +kernel)⟩
theorem lw_p21 : lw_okq (⟨"StoneApologiesModel", "addsSpeaker", "(II)V"⟩, 30) := ⟨⟨by decide +kernel, by decide +kernel⟩, List.mem_of_getElem? (i := 724) (by decide +kernel), List.mem_of_getElem? (i := 742) (by decide +kernel), List.mem_of_getElem? (i := 743) (by decide +kernel)⟩
theorem lw_p22 : lw_okq (⟨"StoneApologiesModel", "begins", "()V"⟩, 30) := ⟨⟨by decide +kernel, by decide +kernel⟩, List.mem_of_getElem? (i := 724) (by decide +kernel), List.mem_of_getElem? (i := 746) (by decide +kernel), List.mem_of_getElem? (i := 747) (by decide +kernel)⟩
theorem lw_p23 : lw_okq (⟨"StoneApologiesModel", "faultOf", "()I"⟩, 30) := ⟨⟨by decide +kernel, by decide +kernel⟩, List.mem_of_getElem? (i := 724) (by decide +kernel), List.mem_of_getElem? (i := 858) (by decide +kernel), List.mem_of_getElem? (i := 859) (by decide +kernel)⟩
theorem lw_p24 : lw_okq (⟨"StoneApologiesModel", "takesItem", "()Z"⟩, 30) := ⟨⟨by decide +kernel, by decide +kernel⟩, List.mem_of_getElem? (i := 724) (by decide +kernel), List.mem_of_getElem? (i := 862) (by decide +kernel), List.mem_of_getElem? (i := 863) (by decide +kernel)⟩
theorem lw_p25 : lw_okq (⟨"StoneApologiesModel", "letterAt", "(I)I"⟩, 30) := ⟨⟨by decide +kernel, by decide +kernel⟩, List.mem_of_getElem? (i := 724) (by decide +kernel), List.mem_of_getElem? (i := 866) (by decide +kernel), List.mem_of_getElem? (i := 867) (by decide +kernel)⟩
theorem lw_p26 : lw_okq (⟨"StoneApologiesModel", "takesBlock", "()Z"⟩, 30) := ⟨⟨by decide +kernel, by decide +kernel⟩, List.mem_of_getElem? (i := 724) (by decide +kernel), List.mem_of_getElem? (i := 870) (by decide +kernel), List.mem_of_getElem? (i := 871) (by decide +kernel)⟩
theorem lw_p27 : lw_okq (⟨"StoneApologiesModel", "takesNumber", "(III)Z"⟩, 30) := ⟨⟨by decide +kernel, by decide +kernel⟩, List.mem_of_getElem? (i := 724) (by decide +kernel), List.mem_of_getElem? (i := 874) (by decide +kernel), List.mem_of_getElem? (i := 875) (by decide +kernel)⟩
theorem lw_p28 : lw_okq (⟨"StoneApologiesModel", "takesWord", "()Z"⟩, 30) := ⟨⟨by decide +kernel, by decide +kernel⟩, List.mem_of_getElem? (i := 724) (by decide +kernel), List.mem_of_getElem? (i := 880) (by decide +kernel), List.mem_of_getElem? (i := 881) (by decide +kernel)⟩
theorem lw_p29 : lw_okq (⟨"StoneApologiesModel", "takesSpeaker", "()Z"⟩, 30) := ⟨⟨by decide +kernel, by decide +kernel⟩, List.mem_of_getElem? (i := 724) (by decide +kernel), List.mem_of_getElem? (i := 884) (by decide +kernel), List.mem_of_getElem? (i := 885) (by decide +kernel)⟩
theorem lw_p30 : lw_okq (⟨"StoneApologiesModel", "takesFrost", "()Z"⟩, 30) := ⟨⟨by decide +kernel, by decide +kernel⟩, List.mem_of_getElem? (i := 724) (by decide +kernel), List.mem_of_getElem? (i := 888) (by decide +kernel), List.mem_of_getElem? (i := 889) (by decide +kernel)⟩
theorem lw_p31 : lw_okq (⟨"StoneApologiesModel", "takesPromise", "()Z"⟩, 30) := ⟨⟨by decide +kernel, by decide +kernel⟩, List.mem_of_getElem? (i := 724) (by decide +kernel), List.mem_of_getElem? (i := 892) (by decide +kernel), List.mem_of_getElem? (i := 893) (by decide +kernel)⟩
def lw_privs_2 : List (MethodName × Nat) := [(⟨"StoneApologies$Quarry", "harmOf", "(II)I"⟩, 8), (⟨"StoneApologies$Quarry", "explainsOne", "(II)Z"⟩, 8), (⟨"StoneApologiesModel", "starts", "()V"⟩, 30), (⟨"StoneApologiesModel", "addsBlock", "(II)V"⟩, 30), (⟨"StoneApologiesModel", "addsWord", "(I)V"⟩, 30), (⟨"StoneApologiesModel", "addsSpeaker", "(II)V"⟩, 30), (⟨"StoneApologiesModel", "begins", "()V"⟩, 30), (⟨"StoneApologiesModel", "faultOf", "()I"⟩, 30), (⟨"StoneApologiesModel", "takesItem", "()Z"⟩, 30), (⟨"StoneApologiesModel", "letterAt", "(I)I"⟩, 30), (⟨"StoneApologiesModel", "takesBlock", "()Z"⟩, 30), (⟨"StoneApologiesModel", "takesNumber", "(III)Z"⟩, 30), (⟨"StoneApologiesModel", "takesWord", "()Z"⟩, 30), (⟨"StoneApologiesModel", "takesSpeaker", "()Z"⟩, 30), (⟨"StoneApologiesModel", "takesFrost", "()Z"⟩, 30), (⟨"StoneApologiesModel", "takesPromise", "()Z"⟩, 30)]
theorem lw_r2 : ∀ q ∈ lw_privs_2, lw_okq q := List.forall_mem_cons.mpr ⟨lw_p16, List.forall_mem_cons.mpr ⟨lw_p17, List.forall_mem_cons.mpr ⟨lw_p18, List.forall_mem_cons.mpr ⟨lw_p19, List.forall_mem_cons.mpr ⟨lw_p20, List.forall_mem_cons.mpr ⟨lw_p21, List.forall_mem_cons.mpr ⟨lw_p22, List.forall_mem_cons.mpr ⟨lw_p23, List.forall_mem_cons.mpr ⟨lw_p24, List.forall_mem_cons.mpr ⟨lw_p25, List.forall_mem_cons.mpr ⟨lw_p26, List.forall_mem_cons.mpr ⟨lw_p27, List.forall_mem_cons.mpr ⟨lw_p28, List.forall_mem_cons.mpr ⟨lw_p29, List.forall_mem_cons.mpr ⟨lw_p30, List.forall_mem_cons.mpr ⟨lw_p31, fun _ h => absurd h List.not_mem_nil⟩⟩⟩⟩⟩⟩⟩⟩⟩⟩⟩⟩⟩⟩⟩⟩
theorem lw_p32 : lw_okq (⟨"StoneApologiesModel", "isBlock", "(I)Z"⟩, 30) := ⟨⟨by decide +kernel, by decide +kernel⟩, List.mem_of_getElem? (i := 724) (by decide +kernel), List.mem_of_getElem? (i := 904) (by decide +kernel), List.mem_of_getElem? (i := 905) (by decide +kernel)⟩
theorem lw_p33 : lw_okq (⟨"StoneApologiesModel", "isWord", "(I)Z"⟩, 30) := ⟨⟨by decide +kernel, by decide +kernel⟩, List.mem_of_getElem? (i := 724) (by decide +kernel), List.mem_of_getElem? (i := 912) (by decide +kernel), List.mem_of_getElem? (i := 913) (by decide +kernel)⟩
theorem lw_p34 : lw_okq (⟨"StoneApologiesModel", "isSpeaker", "(I)Z"⟩, 30) := ⟨⟨by decide +kernel, by decide +kernel⟩, List.mem_of_getElem? (i := 724) (by decide +kernel), List.mem_of_getElem? (i := 920) (by decide +kernel), List.mem_of_getElem? (i := 921) (by decide +kernel)⟩
theorem lw_p35 : lw_okq (⟨"StoneApologiesModel", "worthOf", "(IIII)I"⟩, 30) := ⟨⟨by decide +kernel, by decide +kernel⟩, List.mem_of_getElem? (i := 724) (by decide +kernel), List.mem_of_getElem? (i := 936) (by decide +kernel), List.mem_of_getElem? (i := 937) (by decide +kernel)⟩
theorem lw_p36 : lw_okq (⟨"StoneApologiesModel", "spoken", "(III)I"⟩, 30) := ⟨⟨by decide +kernel, by decide +kernel⟩, List.mem_of_getElem? (i := 724) (by decide +kernel), List.mem_of_getElem? (i := 940) (by decide +kernel), List.mem_of_getElem? (i := 941) (by decide +kernel)⟩
theorem lw_p37 : lw_okq (⟨"StoneApologiesModel", "byKind", "(II)I"⟩, 30) := ⟨⟨by decide +kernel, by decide +kernel⟩, List.mem_of_getElem? (i := 724) (by decide +kernel), List.mem_of_getElem? (i := 944) (by decide +kernel), List.mem_of_getElem? (i := 945) (by decide +kernel)⟩
theorem lw_p38 : lw_okq (⟨"StoneApologiesModel", "heardOf", "(III)I"⟩, 30) := ⟨⟨by decide +kernel, by decide +kernel⟩, List.mem_of_getElem? (i := 724) (by decide +kernel), List.mem_of_getElem? (i := 948) (by decide +kernel), List.mem_of_getElem? (i := 949) (by decide +kernel)⟩
theorem lw_p39 : lw_okq (⟨"StoneApologiesModel", "canSay", "(III)Z"⟩, 30) := ⟨⟨by decide +kernel, by decide +kernel⟩, List.mem_of_getElem? (i := 724) (by decide +kernel), List.mem_of_getElem? (i := 959) (by decide +kernel), List.mem_of_getElem? (i := 960) (by decide +kernel)⟩
theorem lw_p40 : lw_okq (⟨"StoneApologiesModel", "inBed", "(II)Z"⟩, 30) := ⟨⟨by decide +kernel, by decide +kernel⟩, List.mem_of_getElem? (i := 724) (by decide +kernel), List.mem_of_getElem? (i := 963) (by decide +kernel), List.mem_of_getElem? (i := 964) (by decide +kernel)⟩
theorem lw_p41 : lw_okq (⟨"StoneApologiesModel", "minds", "()V"⟩, 30) := ⟨⟨by decide +kernel, by decide +kernel⟩, List.mem_of_getElem? (i := 724) (by decide +kernel), List.mem_of_getElem? (i := 967) (by decide +kernel), List.mem_of_getElem? (i := 968) (by decide +kernel)⟩
theorem lw_p42 : lw_okq (⟨"StoneApologiesModel", "copy", "(II)V"⟩, 30) := ⟨⟨by decide +kernel, by decide +kernel⟩, List.mem_of_getElem? (i := 724) (by decide +kernel), List.mem_of_getElem? (i := 971) (by decide +kernel), List.mem_of_getElem? (i := 972) (by decide +kernel)⟩
theorem lw_p43 : lw_okq (⟨"StoneApologiesModel", "says", "(IIII)V"⟩, 30) := ⟨⟨by decide +kernel, by decide +kernel⟩, List.mem_of_getElem? (i := 724) (by decide +kernel), List.mem_of_getElem? (i := 975) (by decide +kernel), List.mem_of_getElem? (i := 976) (by decide +kernel)⟩
theorem lw_p44 : lw_okq (⟨"StoneApologiesModel", "hears", "(III)Z"⟩, 30) := ⟨⟨by decide +kernel, by decide +kernel⟩, List.mem_of_getElem? (i := 724) (by decide +kernel), List.mem_of_getElem? (i := 979) (by decide +kernel), List.mem_of_getElem? (i := 980) (by decide +kernel)⟩
theorem lw_p45 : lw_okq (⟨"StoneApologiesModel", "comes", "(II)V"⟩, 30) := ⟨⟨by decide +kernel, by decide +kernel⟩, List.mem_of_getElem? (i := 724) (by decide +kernel), List.mem_of_getElem? (i := 983) (by decide +kernel), List.mem_of_getElem? (i := 984) (by decide +kernel)⟩
theorem lw_p46 : lw_okq (⟨"StoneApologiesModel", "takesFor", "(III)V"⟩, 30) := ⟨⟨by decide +kernel, by decide +kernel⟩, List.mem_of_getElem? (i := 724) (by decide +kernel), List.mem_of_getElem? (i := 996) (by decide +kernel), List.mem_of_getElem? (i := 997) (by decide +kernel)⟩
theorem lw_p47 : lw_okq (⟨"StoneApologiesModel", "isElse", "(III)Z"⟩, 30) := ⟨⟨by decide +kernel, by decide +kernel⟩, List.mem_of_getElem? (i := 724) (by decide +kernel), List.mem_of_getElem? (i := 1000) (by decide +kernel), List.mem_of_getElem? (i := 1001) (by decide +kernel)⟩
def lw_privs_3 : List (MethodName × Nat) := [(⟨"StoneApologiesModel", "isBlock", "(I)Z"⟩, 30), (⟨"StoneApologiesModel", "isWord", "(I)Z"⟩, 30), (⟨"StoneApologiesModel", "isSpeaker", "(I)Z"⟩, 30), (⟨"StoneApologiesModel", "worthOf", "(IIII)I"⟩, 30), (⟨"StoneApologiesModel", "spoken", "(III)I"⟩, 30), (⟨"StoneApologiesModel", "byKind", "(II)I"⟩, 30), (⟨"StoneApologiesModel", "heardOf", "(III)I"⟩, 30), (⟨"StoneApologiesModel", "canSay", "(III)Z"⟩, 30), (⟨"StoneApologiesModel", "inBed", "(II)Z"⟩, 30), (⟨"StoneApologiesModel", "minds", "()V"⟩, 30), (⟨"StoneApologiesModel", "copy", "(II)V"⟩, 30), (⟨"StoneApologiesModel", "says", "(IIII)V"⟩, 30), (⟨"StoneApologiesModel", "hears", "(III)Z"⟩, 30), (⟨"StoneApologiesModel", "comes", "(II)V"⟩, 30), (⟨"StoneApologiesModel", "takesFor", "(III)V"⟩, 30), (⟨"StoneApologiesModel", "isElse", "(III)Z"⟩, 30)]
theorem lw_r3 : ∀ q ∈ lw_privs_3, lw_okq q := List.forall_mem_cons.mpr ⟨lw_p32, List.forall_mem_cons.mpr ⟨lw_p33, List.forall_mem_cons.mpr ⟨lw_p34, List.forall_mem_cons.mpr ⟨lw_p35, List.forall_mem_cons.mpr ⟨lw_p36, List.forall_mem_cons.mpr ⟨lw_p37, List.forall_mem_cons.mpr ⟨lw_p38, List.forall_mem_cons.mpr ⟨lw_p39, List.forall_mem_cons.mpr ⟨lw_p40, List.forall_mem_cons.mpr ⟨lw_p41, List.forall_mem_cons.mpr ⟨lw_p42, List.forall_mem_cons.mpr ⟨lw_p43, List.forall_mem_cons.mpr ⟨lw_p44, List.forall_mem_cons.mpr ⟨lw_p45, List.forall_mem_cons.mpr ⟨lw_p46, List.forall_mem_cons.mpr ⟨lw_p47, fun _ h => absurd h List.not_mem_nil⟩⟩⟩⟩⟩⟩⟩⟩⟩⟩⟩⟩⟩⟩⟩⟩
theorem lw_p48 : lw_okq (⟨"StoneApologiesModel", "passes", "(I)V"⟩, 30) := ⟨⟨by decide +kernel, by decide +kernel⟩, List.mem_of_getElem? (i := 724) (by decide +kernel), List.mem_of_getElem? (i := 1009) (by decide +kernel), List.mem_of_getElem? (i := 1010) (by decide +kernel)⟩
theorem lw_p49 : lw_okq (⟨"StoneApologiesModel", "bringsOut", "(II)Z"⟩, 30) := ⟨⟨by decide +kernel, by decide +kernel⟩, List.mem_of_getElem? (i := 724) (by decide +kernel), List.mem_of_getElem? (i := 1021) (by decide +kernel), List.mem_of_getElem? (i := 1022) (by decide +kernel)⟩
theorem lw_p50 : lw_okq (⟨"StoneApologiesModel", "bestOf", "(II)I"⟩, 30) := ⟨⟨by decide +kernel, by decide +kernel⟩, List.mem_of_getElem? (i := 724) (by decide +kernel), List.mem_of_getElem? (i := 1029) (by decide +kernel), List.mem_of_getElem? (i := 1030) (by decide +kernel)⟩
theorem lw_p51 : lw_okq (⟨"StoneApologiesModel", "bestOrder", "()I"⟩, 30) := ⟨⟨by decide +kernel, by decide +kernel⟩, List.mem_of_getElem? (i := 724) (by decide +kernel), List.mem_of_getElem? (i := 1037) (by decide +kernel), List.mem_of_getElem? (i := 1038) (by decide +kernel)⟩
theorem lw_p52 : lw_okq (⟨"StoneApologiesModel", "bedOf", "()I"⟩, 30) := ⟨⟨by decide +kernel, by decide +kernel⟩, List.mem_of_getElem? (i := 724) (by decide +kernel), List.mem_of_getElem? (i := 1041) (by decide +kernel), List.mem_of_getElem? (i := 1042) (by decide +kernel)⟩
theorem lw_p53 : lw_okq (⟨"StoneApologiesModel", "asks", "(II)V"⟩, 30) := ⟨⟨by decide +kernel, by decide +kernel⟩, List.mem_of_getElem? (i := 724) (by decide +kernel), List.mem_of_getElem? (i := 1051) (by decide +kernel), List.mem_of_getElem? (i := 1052) (by decide +kernel)⟩
theorem lw_p54 : lw_okq (⟨"StoneApologiesModel", "tries", "()V"⟩, 30) := ⟨⟨by decide +kernel, by decide +kernel⟩, List.mem_of_getElem? (i := 724) (by decide +kernel), List.mem_of_getElem? (i := 1059) (by decide +kernel), List.mem_of_getElem? (i := 1060) (by decide +kernel)⟩
theorem lw_p55 : lw_okq (⟨"StoneApologiesModel", "bestWord", "(II)I"⟩, 30) := ⟨⟨by decide +kernel, by decide +kernel⟩, List.mem_of_getElem? (i := 724) (by decide +kernel), List.mem_of_getElem? (i := 1063) (by decide +kernel), List.mem_of_getElem? (i := 1064) (by decide +kernel)⟩
theorem lw_p56 : lw_okq (⟨"StoneApologiesModel", "harmOf", "(II)I"⟩, 30) := ⟨⟨by decide +kernel, by decide +kernel⟩, List.mem_of_getElem? (i := 724) (by decide +kernel), List.mem_of_getElem? (i := 1080) (by decide +kernel), List.mem_of_getElem? (i := 1081) (by decide +kernel)⟩
theorem lw_p57 : lw_okq (⟨"StoneApologiesModel", "lies", "(II)Z"⟩, 30) := ⟨⟨by decide +kernel, by decide +kernel⟩, List.mem_of_getElem? (i := 724) (by decide +kernel), List.mem_of_getElem? (i := 1088) (by decide +kernel), List.mem_of_getElem? (i := 1089) (by decide +kernel)⟩
theorem lw_p58 : lw_okq (⟨"StoneApologiesModel", "doesBy", "(I)V"⟩, 30) := ⟨⟨by decide +kernel, by decide +kernel⟩, List.mem_of_getElem? (i := 724) (by decide +kernel), List.mem_of_getElem? (i := 1112) (by decide +kernel), List.mem_of_getElem? (i := 1113) (by decide +kernel)⟩
theorem lw_p59 : lw_okq (⟨"StoneApologiesModel", "manyHow", "(II)I"⟩, 30) := ⟨⟨by decide +kernel, by decide +kernel⟩, List.mem_of_getElem? (i := 724) (by decide +kernel), List.mem_of_getElem? (i := 1116) (by decide +kernel), List.mem_of_getElem? (i := 1117) (by decide +kernel)⟩
def lw_privs_4 : List (MethodName × Nat) := [(⟨"StoneApologiesModel", "passes", "(I)V"⟩, 30), (⟨"StoneApologiesModel", "bringsOut", "(II)Z"⟩, 30), (⟨"StoneApologiesModel", "bestOf", "(II)I"⟩, 30), (⟨"StoneApologiesModel", "bestOrder", "()I"⟩, 30), (⟨"StoneApologiesModel", "bedOf", "()I"⟩, 30), (⟨"StoneApologiesModel", "asks", "(II)V"⟩, 30), (⟨"StoneApologiesModel", "tries", "()V"⟩, 30), (⟨"StoneApologiesModel", "bestWord", "(II)I"⟩, 30), (⟨"StoneApologiesModel", "harmOf", "(II)I"⟩, 30), (⟨"StoneApologiesModel", "lies", "(II)Z"⟩, 30), (⟨"StoneApologiesModel", "doesBy", "(I)V"⟩, 30), (⟨"StoneApologiesModel", "manyHow", "(II)I"⟩, 30)]
theorem lw_r4 : ∀ q ∈ lw_privs_4, lw_okq q := List.forall_mem_cons.mpr ⟨lw_p48, List.forall_mem_cons.mpr ⟨lw_p49, List.forall_mem_cons.mpr ⟨lw_p50, List.forall_mem_cons.mpr ⟨lw_p51, List.forall_mem_cons.mpr ⟨lw_p52, List.forall_mem_cons.mpr ⟨lw_p53, List.forall_mem_cons.mpr ⟨lw_p54, List.forall_mem_cons.mpr ⟨lw_p55, List.forall_mem_cons.mpr ⟨lw_p56, List.forall_mem_cons.mpr ⟨lw_p57, List.forall_mem_cons.mpr ⟨lw_p58, List.forall_mem_cons.mpr ⟨lw_p59, fun _ h => absurd h List.not_mem_nil⟩⟩⟩⟩⟩⟩⟩⟩⟩⟩⟩⟩
def lw_privs : List (MethodName × Nat) := lw_privs_1 ++ (lw_privs_2 ++ (lw_privs_3 ++ (lw_privs_4)))
def lw_tbl : List Cond := k2_sels lw_privs ++ tables_1
theorem lw_privs_ok : ∀ q ∈ lw_privs, lw_okq q := by
  show ∀ q ∈ lw_privs_1 ++ (lw_privs_2 ++ (lw_privs_3 ++ (lw_privs_4))), lw_okq q
  exact List.forall_mem_append.mpr ⟨lw_r1, List.forall_mem_append.mpr ⟨lw_r2, List.forall_mem_append.mpr ⟨lw_r3, lw_r4⟩⟩⟩
end
section
/-! ===== BEGIN words of one list among another's, by their places ===== -/
theorem goodIn_r {big : List Cond} (ws : List Cond) (ps : List Nat) (hp : ws = ps.filterMap (fun i => big[i]?)) (h : ws.all goodWord = true) : GoodIn big ws := by
  intro w hw
  have h1 := List.all_eq_true.mp h w hw
  rw [hp] at hw
  obtain ⟨i, -, hi⟩ := List.mem_filterMap.mp hw
  have hm : w ∈ big := by first | exact List.mem_of_getElem? hi | exact List.getElem?_mem hi
  exact ⟨hm, good_of_word h1⟩
theorem goodIn_app {big a b : List Cond} (ha : GoodIn big a) (hb : GoodIn big b) : GoodIn big (a ++ b) := fun w h => (List.mem_append.mp h).elim (ha w) (hb w)
theorem goodIn_ca {big a b : List Cond} {c : Cond} (ha : GoodIn big (c :: a)) (hb : GoodIn big b) : GoodIn big (c :: (a ++ b)) := fun w h => (List.mem_cons.mp h).elim (fun e => ha w (List.mem_cons.mpr (Or.inl e))) (fun h => (List.mem_append.mp h).elim (fun h => ha w (List.mem_cons.mpr (Or.inr h))) (hb w))
theorem goodIn_sub {big ws : List Cond} (hm : ∀ w ∈ ws, w ∈ big) (h : ws.all goodWord = true) : GoodIn big ws := fun w hw => ⟨hm w hw, good_of_word (List.all_eq_true.mp h w hw)⟩
/-! ===== END ===== -/

/-! ===== BEGIN printed: names, fields, word lists, decode rows ===== -/
def RX0 : String := "StoneApologies$Bed"
def TX0 : u_T := fun k => match k with
  | 0 => ("StoneApologies$Bed", "blocks", "I", false)
  | 1 => ("StoneApologies$Bed", "words", "I", false)
  | 2 => ("StoneApologies$Bed", "speakers", "I", false)
  | 3 => ("StoneApologies$Bed", "chill", "I", false)
  | 4 => ("StoneApologies$Bed", "blockKinds", "[I", true)
  | 5 => ("StoneApologies$Bed", "needs", "[I", true)
  | 6 => ("StoneApologies$Bed", "wordWorths", "[I", true)
  | 7 => ("StoneApologies$Bed", "speakerKinds", "[I", true)
  | 8 => ("StoneApologies$Bed", "dayHours", "[I", true)
  | 9 => ("StoneApologies$Bed", "firstVows", "[I", true)
  | 10 => ("StoneApologies$Bed", "plainWorths", "[I", true)
  | _ => ("StoneApologies$Bed", "freshWorths", "[I", true)
def tyX0 : Nat → FieldType := fun k => match k with
  | 0 => .int
  | 1 => .int
  | 2 => .int
  | 3 => .int
  | 4 => .array .int
  | 5 => .array .int
  | 6 => .array .int
  | 7 => .array .int
  | 8 => .array .int
  | 9 => .array .int
  | 10 => .array .int
  | _ => .array .int
abbrev wsX00 : List Cond := u_ws RX0 TX0 12
theorem nmX0 : ∀ a, a < 12 → ∀ b, b < 12 → a ≠ b → (TX0 a).2.1 ≠ (TX0 b).2.1 := by decide +kernel
theorem tyX0_ok : ∀ k, k < 12 → parseFieldDescriptor (TX0 k).2.2.1 = some (tyX0 k) := by decide +kernel
abbrev cX0_init : ByteArray := prog_2_method_1_code
def yX0_init : MethodName := ⟨RX0, "<init>", "()V"⟩
abbrev cX0_clear : ByteArray := prog_2_method_2_code
def yX0_clear : MethodName := ⟨RX0, "clear", "()V"⟩
abbrev cX0_isWhole : ByteArray := prog_2_method_3_code
def yX0_isWhole : MethodName := ⟨RX0, "isWhole", "()Z"⟩
abbrev cX0_addBlock : ByteArray := prog_2_method_4_code
def yX0_addBlock : MethodName := ⟨RX0, "addBlock", "(II)Z"⟩
abbrev cX0_addWord : ByteArray := prog_2_method_5_code
def yX0_addWord : MethodName := ⟨RX0, "addWord", "(I)Z"⟩
abbrev cX0_addSpeaker : ByteArray := prog_2_method_6_code
def yX0_addSpeaker : MethodName := ⟨RX0, "addSpeaker", "(II)Z"⟩
abbrev cX0_setFrost : ByteArray := prog_2_method_7_code
def yX0_setFrost : MethodName := ⟨RX0, "setFrost", "(I)Z"⟩
abbrev cX0_addVow : ByteArray := prog_2_method_8_code
def yX0_addVow : MethodName := ⟨RX0, "addVow", "(III)Z"⟩
abbrev cX0_reckon : ByteArray := prog_2_method_9_code
def yX0_reckon : MethodName := ⟨RX0, "reckon", "()V"⟩
abbrev cX0_plainWorth : ByteArray := prog_2_method_10_code
def yX0_plainWorth : MethodName := ⟨RX0, "plainWorth", "(II)I"⟩
abbrev cX0_spokenWorth : ByteArray := prog_2_method_11_code
def yX0_spokenWorth : MethodName := ⟨RX0, "spokenWorth", "(IIII)I"⟩
abbrev cX0_coldFor : ByteArray := prog_2_method_12_code
def yX0_coldFor : MethodName := ⟨RX0, "coldFor", "(I)I"⟩
abbrev cX0_vowPlace : ByteArray := prog_2_method_13_code
def yX0_vowPlace : MethodName := ⟨RX0, "vowPlace", "(II)I"⟩
abbrev cX0_wordPlace : ByteArray := prog_2_method_14_code
def yX0_wordPlace : MethodName := ⟨RX0, "wordPlace", "(II)I"⟩
abbrev cX0_sayingPlace : ByteArray := prog_2_method_15_code
def yX0_sayingPlace : MethodName := ⟨RX0, "sayingPlace", "(III)I"⟩
def RX1 : String := "StoneApologies$Orders"
def TX1 : u_T := fun k => match k with
  | 0 => ("StoneApologies$Orders", "steps", "[LStoneApologies$Quarry;", true)
  | 1 => ("StoneApologies$Orders", "row", "[I", true)
  | 2 => ("StoneApologies$Orders", "found", "[I", true)
  | 3 => ("StoneApologies$Orders", "asked", "I", false)
  | _ => ("StoneApologies$Orders", "most", "I", false)
def tyX1 : Nat → FieldType := fun k => match k with
  | 0 => .array (.object "StoneApologies$Quarry")
  | 1 => .array .int
  | 2 => .array .int
  | 3 => .int
  | _ => .int
abbrev wsX10 : List Cond := u_ws RX1 TX1 5
theorem nmX1 : ∀ a, a < 5 → ∀ b, b < 5 → a ≠ b → (TX1 a).2.1 ≠ (TX1 b).2.1 := by decide +kernel
theorem tyX1_ok : ∀ k, k < 5 → parseFieldDescriptor (TX1 k).2.2.1 = some (tyX1 k) := by decide +kernel
abbrev cX1_init : ByteArray := prog_3_method_1_code
def yX1_init : MethodName := ⟨RX1, "<init>", "(LStoneApologies$Bed;)V"⟩
abbrev cX1_seek : ByteArray := prog_3_method_2_code
def yX1_seek : MethodName := ⟨RX1, "seek", "(LStoneApologies$Quarry;)V"⟩
abbrev cX1_extend : ByteArray := prog_3_method_3_code
def yX1_extend : MethodName := ⟨RX1, "extend", "(LStoneApologies$Orders;III)V"⟩
def RX2 : String := "StoneApologies$Pile"
def TX2 : u_T := fun k => match k with
  | 0 => ("StoneApologies$Pile", "slots", "[LStoneApologies$Quarry;", true)
  | 1 => ("StoneApologies$Pile", "next", "I", false)
  | _ => ("StoneApologies$Pile", "size", "I", false)
def tyX2 : Nat → FieldType := fun k => match k with
  | 0 => .array (.object "StoneApologies$Quarry")
  | 1 => .int
  | _ => .int
abbrev wsX20 : List Cond := u_ws RX2 TX2 3
theorem nmX2 : ∀ a, a < 3 → ∀ b, b < 3 → a ≠ b → (TX2 a).2.1 ≠ (TX2 b).2.1 := by decide +kernel
theorem tyX2_ok : ∀ k, k < 3 → parseFieldDescriptor (TX2 k).2.2.1 = some (tyX2 k) := by decide +kernel
abbrev cX2_init : ByteArray := prog_4_method_1_code
def yX2_init : MethodName := ⟨RX2, "<init>", "(ILStoneApologies$Bed;)V"⟩
abbrev cX2_clear : ByteArray := prog_4_method_2_code
def yX2_clear : MethodName := ⟨RX2, "clear", "()V"⟩
abbrev cX2_push : ByteArray := prog_4_method_3_code
def yX2_push : MethodName := ⟨RX2, "push", "(LStoneApologies$Quarry;)V"⟩
abbrev cX2_pop : ByteArray := prog_4_method_4_code
def yX2_pop : MethodName := ⟨RX2, "pop", "(LStoneApologies$Quarry;)Z"⟩
def RX3 : String := "StoneApologies$Quarry"
def TX3 : u_T := fun k => match k with
  | 0 => ("StoneApologies$Quarry", "bed", "LStoneApologies$Bed;", true)
  | 1 => ("StoneApologies$Quarry", "day", "I", false)
  | 2 => ("StoneApologies$Quarry", "softness", "[I", true)
  | 3 => ("StoneApologies$Quarry", "places", "[I", true)
  | 4 => ("StoneApologies$Quarry", "takenFor", "[I", true)
  | 5 => ("StoneApologies$Quarry", "hours", "[I", true)
  | 6 => ("StoneApologies$Quarry", "hearings", "[I", true)
  | _ => ("StoneApologies$Quarry", "vows", "[I", true)
def tyX3 : Nat → FieldType := fun k => match k with
  | 0 => .object "StoneApologies$Bed"
  | 1 => .int
  | 2 => .array .int
  | 3 => .array .int
  | 4 => .array .int
  | 5 => .array .int
  | 6 => .array .int
  | _ => .array .int
abbrev wsX30 : List Cond := u_ws RX3 TX3 8
theorem nmX3 : ∀ a, a < 8 → ∀ b, b < 8 → a ≠ b → (TX3 a).2.1 ≠ (TX3 b).2.1 := by decide +kernel
theorem tyX3_ok : ∀ k, k < 8 → parseFieldDescriptor (TX3 k).2.2.1 = some (tyX3 k) := by decide +kernel
abbrev cX3_init : ByteArray := prog_5_method_1_code
def yX3_init : MethodName := ⟨RX3, "<init>", "(LStoneApologies$Bed;)V"⟩
abbrev cX3_begin : ByteArray := prog_5_method_2_code
def yX3_begin : MethodName := ⟨RX3, "begin", "()V"⟩
abbrev cX3_copyFrom : ByteArray := prog_5_method_3_code
def yX3_copyFrom : MethodName := ⟨RX3, "copyFrom", "(LStoneApologies$Quarry;)V"⟩
abbrev cX3_isIn : ByteArray := prog_5_method_4_code
def yX3_isIn : MethodName := ⟨RX3, "isIn", "(II)Z"⟩
abbrev cX3_tally : ByteArray := prog_5_method_5_code
def yX3_tally : MethodName := ⟨RX3, "tally", "(I)I"⟩
abbrev cX3_hoursLeft : ByteArray := prog_5_method_6_code
def yX3_hoursLeft : MethodName := ⟨RX3, "hoursLeft", "()I"⟩
abbrev cX3_lackOf : ByteArray := prog_5_method_7_code
def yX3_lackOf : MethodName := ⟨RX3, "lackOf", "(I)I"⟩
abbrev cX3_timesHeard : ByteArray := prog_5_method_8_code
def yX3_timesHeard : MethodName := ⟨RX3, "timesHeard", "(II)I"⟩
abbrev cX3_worthOf : ByteArray := prog_5_method_9_code
def yX3_worthOf : MethodName := ⟨RX3, "worthOf", "(III)I"⟩
abbrev cX3_vowOf : ByteArray := prog_5_method_10_code
def yX3_vowOf : MethodName := ⟨RX3, "vowOf", "(II)I"⟩
abbrev cX3_canSay : ByteArray := prog_5_method_11_code
def yX3_canSay : MethodName := ⟨RX3, "canSay", "(II)Z"⟩
abbrev cX3_speak : ByteArray := prog_5_method_12_code
def yX3_speak : MethodName := ⟨RX3, "speak", "(III)V"⟩
abbrev cX3_hear : ByteArray := prog_5_method_13_code
def yX3_hear : MethodName := ⟨RX3, "hear", "(III)V"⟩
abbrev cX3_hearsThrough : ByteArray := prog_5_method_14_code
def yX3_hearsThrough : MethodName := ⟨RX3, "hearsThrough", "(II)Z"⟩
abbrev cX3_soften : ByteArray := prog_5_method_15_code
def yX3_soften : MethodName := ⟨RX3, "soften", "(II)V"⟩
abbrev cX3_vow : ByteArray := prog_5_method_16_code
def yX3_vow : MethodName := ⟨RX3, "vow", "(III)V"⟩
abbrev cX3_carryOff : ByteArray := prog_5_method_17_code
def yX3_carryOff : MethodName := ⟨RX3, "carryOff", "(II)V"⟩
abbrev cX3_wouldCrack : ByteArray := prog_5_method_18_code
def yX3_wouldCrack : MethodName := ⟨RX3, "wouldCrack", "(II)Z"⟩
abbrev cX3_belies : ByteArray := prog_5_method_19_code
def yX3_belies : MethodName := ⟨RX3, "belies", "(III)Z"⟩
abbrev cX3_night : ByteArray := prog_5_method_20_code
def yX3_night : MethodName := ⟨RX3, "night", "()V"⟩
abbrev cX3_dearest : ByteArray := prog_5_method_21_code
def yX3_dearest : MethodName := ⟨RX3, "dearest", "(I)I"⟩
abbrev cX3_askAll : ByteArray := prog_5_method_22_code
def yX3_askAll : MethodName := ⟨RX3, "askAll", "(I)V"⟩
abbrev cX3_askOne : ByteArray := prog_5_method_23_code
def yX3_askOne : MethodName := ⟨RX3, "askOne", "(II)V"⟩
abbrev cX3_dearestWord : ByteArray := prog_5_method_24_code
def yX3_dearestWord : MethodName := ⟨RX3, "dearestWord", "(II)I"⟩
abbrev cX3_mildest : ByteArray := prog_5_method_25_code
def yX3_mildest : MethodName := ⟨RX3, "mildest", "(I)I"⟩
abbrev cX3_harmOf : ByteArray := prog_5_method_26_code
def yX3_harmOf : MethodName := ⟨RX3, "harmOf", "(II)I"⟩
abbrev cX3_explains : ByteArray := prog_5_method_27_code
def yX3_explains : MethodName := ⟨RX3, "explains", "(I)Z"⟩
abbrev cX3_explainsOne : ByteArray := prog_5_method_28_code
def yX3_explainsOne : MethodName := ⟨RX3, "explainsOne", "(II)Z"⟩
abbrev cX3_softerBy : ByteArray := prog_5_method_29_code
def yX3_softerBy : MethodName := ⟨RX3, "softerBy", "(IIII)I"⟩
def RX4 : String := "StoneApologies$Rows"
def TX4 : u_T := fun k => match k with
  | 0 => ("StoneApologies$Rows", "trial", "LStoneApologies$Quarry;", true)
  | _ => ("StoneApologies$Rows", "row", "[I", true)
def tyX4 : Nat → FieldType := fun k => match k with
  | 0 => .object "StoneApologies$Quarry"
  | _ => .array .int
abbrev wsX40 : List Cond := u_ws RX4 TX4 2
theorem nmX4 : ∀ a, a < 2 → ∀ b, b < 2 → a ≠ b → (TX4 a).2.1 ≠ (TX4 b).2.1 := by decide +kernel
theorem tyX4_ok : ∀ k, k < 2 → parseFieldDescriptor (TX4 k).2.2.1 = some (tyX4 k) := by decide +kernel
abbrev cX4_init : ByteArray := prog_6_method_1_code
def yX4_init : MethodName := ⟨RX4, "<init>", "(LStoneApologies$Quarry;)V"⟩
abbrev cX4_shortest : ByteArray := prog_6_method_2_code
def yX4_shortest : MethodName := ⟨RX4, "shortest", "(I)I"⟩
abbrev cX4_extend : ByteArray := prog_6_method_3_code
def yX4_extend : MethodName := ⟨RX4, "extend", "(LStoneApologies$Rows;III)Z"⟩
abbrev cX4_shift : ByteArray := prog_6_method_4_code
def yX4_shift : MethodName := ⟨RX4, "shift", "(IIIII)V"⟩
def RX5 : String := "StoneApologies$Text"
def TX5 : u_T := fun k => match k with
  | 0 => ("StoneApologies$Text", "letters", "[I", true)
  | 1 => ("StoneApologies$Text", "numbers", "[I", true)
  | 2 => ("StoneApologies$Text", "length", "I", false)
  | _ => ("StoneApologies$Text", "place", "I", false)
def tyX5 : Nat → FieldType := fun k => match k with
  | 0 => .array .int
  | 1 => .array .int
  | 2 => .int
  | _ => .int
abbrev wsX50 : List Cond := u_ws RX5 TX5 4
theorem nmX5 : ∀ a, a < 4 → ∀ b, b < 4 → a ≠ b → (TX5 a).2.1 ≠ (TX5 b).2.1 := by decide +kernel
theorem tyX5_ok : ∀ k, k < 4 → parseFieldDescriptor (TX5 k).2.2.1 = some (tyX5 k) := by decide +kernel
abbrev cX5_init : ByteArray := prog_7_method_1_code
def yX5_init : MethodName := ⟨RX5, "<init>", "()V"⟩
abbrev cX5_append : ByteArray := prog_7_method_2_code
def yX5_append : MethodName := ⟨RX5, "append", "(I)V"⟩
abbrev cX5_readInto : ByteArray := prog_7_method_3_code
def yX5_readInto : MethodName := ⟨RX5, "readInto", "(LStoneApologies$Bed;)I"⟩
abbrev cX5_readItem : ByteArray := prog_7_method_4_code
def yX5_readItem : MethodName := ⟨RX5, "readItem", "(LStoneApologies$Bed;)Z"⟩
abbrev cX5_readNumbers : ByteArray := prog_7_method_5_code
def yX5_readNumbers : MethodName := ⟨RX5, "readNumbers", "()I"⟩
abbrev cX5_readNumber : ByteArray := prog_7_method_6_code
def yX5_readNumber : MethodName := ⟨RX5, "readNumber", "()I"⟩
abbrev cX5_letterAt : ByteArray := prog_7_method_7_code
def yX5_letterAt : MethodName := ⟨RX5, "letterAt", "(I)I"⟩
def RX6 : String := "StoneApologies"
def TX6 : u_T := fun k => match k with
  | 0 => ("StoneApologies", "text", "LStoneApologies$Text;", true)
  | 1 => ("StoneApologies", "bed", "LStoneApologies$Bed;", true)
  | 2 => ("StoneApologies", "draft", "LStoneApologies$Bed;", true)
  | 3 => ("StoneApologies", "now", "LStoneApologies$Quarry;", true)
  | 4 => ("StoneApologies", "trial", "LStoneApologies$Quarry;", true)
  | 5 => ("StoneApologies", "past", "LStoneApologies$Pile;", true)
  | 6 => ("StoneApologies", "kept", "LStoneApologies$Pile;", true)
  | 7 => ("StoneApologies", "rows", "LStoneApologies$Rows;", true)
  | _ => ("StoneApologies", "orders", "LStoneApologies$Orders;", true)
def tyX6 : Nat → FieldType := fun k => match k with
  | 0 => .object "StoneApologies$Text"
  | 1 => .object "StoneApologies$Bed"
  | 2 => .object "StoneApologies$Bed"
  | 3 => .object "StoneApologies$Quarry"
  | 4 => .object "StoneApologies$Quarry"
  | 5 => .object "StoneApologies$Pile"
  | 6 => .object "StoneApologies$Pile"
  | 7 => .object "StoneApologies$Rows"
  | _ => .object "StoneApologies$Orders"
abbrev wsX60 : List Cond := u_ws RX6 TX6 9
theorem nmX6 : ∀ a, a < 9 → ∀ b, b < 9 → a ≠ b → (TX6 a).2.1 ≠ (TX6 b).2.1 := by decide +kernel
theorem tyX6_ok : ∀ k, k < 9 → parseFieldDescriptor (TX6 k).2.2.1 = some (tyX6 k) := by decide +kernel
abbrev cX6_init : ByteArray := prog_1_method_1_code
def yX6_init : MethodName := ⟨RX6, "<init>", "()V"⟩
abbrev cX6_write : ByteArray := prog_1_method_2_code
def yX6_write : MethodName := ⟨RX6, "write", "(I)I"⟩
abbrev cX6_wipe : ByteArray := prog_1_method_3_code
def yX6_wipe : MethodName := ⟨RX6, "wipe", "()I"⟩
abbrev cX6_fault : ByteArray := prog_1_method_4_code
def yX6_fault : MethodName := ⟨RX6, "fault", "()I"⟩
abbrev cX6_lay : ByteArray := prog_1_method_5_code
def yX6_lay : MethodName := ⟨RX6, "lay", "()I"⟩
abbrev cX6_block : ByteArray := prog_1_method_6_code
def yX6_block : MethodName := ⟨RX6, "block", "(II)I"⟩
abbrev cX6_word : ByteArray := prog_1_method_7_code
def yX6_word : MethodName := ⟨RX6, "word", "(I)I"⟩
abbrev cX6_speaker : ByteArray := prog_1_method_8_code
def yX6_speaker : MethodName := ⟨RX6, "speaker", "(II)I"⟩
abbrev cX6_heard : ByteArray := prog_1_method_9_code
def yX6_heard : MethodName := ⟨RX6, "heard", "(II)I"⟩
abbrev cX6_promised : ByteArray := prog_1_method_10_code
def yX6_promised : MethodName := ⟨RX6, "promised", "(II)I"⟩
abbrev cX6_worth : ByteArray := prog_1_method_11_code
def yX6_worth : MethodName := ⟨RX6, "worth", "(III)I"⟩
abbrev cX6_say : ByteArray := prog_1_method_12_code
def yX6_say : MethodName := ⟨RX6, "say", "(III)I"⟩
abbrev cX6_promise : ByteArray := prog_1_method_13_code
def yX6_promise : MethodName := ⟨RX6, "promise", "(III)I"⟩
abbrev cX6_take : ByteArray := prog_1_method_14_code
def yX6_take : MethodName := ⟨RX6, "take", "(II)I"⟩
abbrev cX6_pass : ByteArray := prog_1_method_15_code
def yX6_pass : MethodName := ⟨RX6, "pass", "(I)I"⟩
abbrev cX6_undo : ByteArray := prog_1_method_16_code
def yX6_undo : MethodName := ⟨RX6, "undo", "()I"⟩
abbrev cX6_least : ByteArray := prog_1_method_17_code
def yX6_least : MethodName := ⟨RX6, "least", "(II)I"⟩
abbrev cX6_best : ByteArray := prog_1_method_18_code
def yX6_best : MethodName := ⟨RX6, "best", "(I)I"⟩
abbrev cX6_order : ByteArray := prog_1_method_19_code
def yX6_order : MethodName := ⟨RX6, "order", "(I)I"⟩
abbrev cX6_days : ByteArray := prog_1_method_20_code
def yX6_days : MethodName := ⟨RX6, "days", "(II)I"⟩
abbrev cX6_frost : ByteArray := prog_1_method_21_code
def yX6_frost : MethodName := ⟨RX6, "frost", "(I)I"⟩
abbrev cX6_uses : ByteArray := prog_1_method_22_code
def yX6_uses : MethodName := ⟨RX6, "uses", "(I)I"⟩
abbrev cX6_harm : ByteArray := prog_1_method_23_code
def yX6_harm : MethodName := ⟨RX6, "harm", "(I)I"⟩
abbrev cX6_liars : ByteArray := prog_1_method_24_code
def yX6_liars : MethodName := ⟨RX6, "liars", "()I"⟩
abbrev cX6_said : ByteArray := prog_1_method_25_code
def yX6_said : MethodName := ⟨RX6, "said", "(III)I"⟩
abbrev cX6_deaf : ByteArray := prog_1_method_26_code
def yX6_deaf : MethodName := ⟨RX6, "deaf", "(IIIIII)I"⟩
abbrev cX6_year : ByteArray := prog_1_method_27_code
def yX6_year : MethodName := ⟨RX6, "year", "(III)I"⟩
abbrev cX6_keep : ByteArray := prog_1_method_28_code
def yX6_keep : MethodName := ⟨RX6, "keep", "()I"⟩
abbrev cX6_back : ByteArray := prog_1_method_29_code
def yX6_back : MethodName := ⟨RX6, "back", "()I"⟩
abbrev cX6_count : ByteArray := prog_1_method_30_code
def yX6_count : MethodName := ⟨RX6, "count", "(I)I"⟩
abbrev cX6_layOut : ByteArray := prog_1_method_31_code
def yX6_layOut : MethodName := ⟨RX6, "layOut", "()V"⟩
abbrev cX6_isBlock : ByteArray := prog_1_method_32_code
def yX6_isBlock : MethodName := ⟨RX6, "isBlock", "(I)Z"⟩
abbrev cX6_isWord : ByteArray := prog_1_method_33_code
def yX6_isWord : MethodName := ⟨RX6, "isWord", "(I)Z"⟩
abbrev cX6_isSpeaker : ByteArray := prog_1_method_34_code
def yX6_isSpeaker : MethodName := ⟨RX6, "isSpeaker", "(I)Z"⟩
abbrev cX6_isSaying : ByteArray := prog_1_method_35_code
def yX6_isSaying : MethodName := ⟨RX6, "isSaying", "(III)Z"⟩
abbrev cX6_isUse : ByteArray := prog_1_method_36_code
def yX6_isUse : MethodName := ⟨RX6, "isUse", "(I)Z"⟩
abbrev cX6_isPart : ByteArray := prog_1_method_37_code
def yX6_isPart : MethodName := ⟨RX6, "isPart", "(I)Z"⟩
abbrev cX6_saying : ByteArray := prog_1_method_38_code
def yX6_saying : MethodName := ⟨RX6, "saying", "(II)I"⟩
abbrev cX6_weight : ByteArray := prog_1_method_39_code
def yX6_weight : MethodName := ⟨RX6, "weight", "(III)I"⟩
abbrev cX6_commonMeasure : ByteArray := prog_1_method_40_code
def yX6_commonMeasure : MethodName := ⟨RX6, "commonMeasure", "(II)I"⟩
abbrev cX6_drawOf : ByteArray := prog_1_method_41_code
def yX6_drawOf : MethodName := ⟨RX6, "drawOf", "(II)I"⟩
abbrev cX6_live : ByteArray := prog_1_method_42_code
def yX6_live : MethodName := ⟨RX6, "live", "(LStoneApologies$Quarry;I)V"⟩
abbrev cX6_at : ByteArray := prog_1_method_43_code
def yX6_at : MethodName := ⟨RX6, "at", "([II)I"⟩
abbrev cX6_put : ByteArray := prog_1_method_44_code
def yX6_put : MethodName := ⟨RX6, "put", "([III)V"⟩
abbrev cX6_fill : ByteArray := prog_1_method_45_code
def yX6_fill : MethodName := ⟨RX6, "fill", "([II)V"⟩
abbrev cX6_copy : ByteArray := prog_1_method_46_code
def yX6_copy : MethodName := ⟨RX6, "copy", "([I[I)V"⟩
abbrev cX6_pick : ByteArray := prog_1_method_47_code
def yX6_pick : MethodName := ⟨RX6, "pick", "([LStoneApologies$Quarry;I)LStoneApologies$Quarry;"⟩
def RX7 : String := "StoneApologiesModel"
def TX7 : u_T := fun k => match k with
  | 0 => ("StoneApologiesModel", "w", "[I", true)
  | 1 => ("StoneApologiesModel", "undoes", "I", false)
  | 2 => ("StoneApologiesModel", "kept", "I", false)
  | 3 => ("StoneApologiesModel", "blocks", "I", false)
  | 4 => ("StoneApologiesModel", "kind", "[I", true)
  | 5 => ("StoneApologiesModel", "needs", "[I", true)
  | 6 => ("StoneApologiesModel", "words", "I", false)
  | 7 => ("StoneApologiesModel", "told", "[I", true)
  | 8 => ("StoneApologiesModel", "speakers", "I", false)
  | 9 => ("StoneApologiesModel", "speaks", "[I", true)
  | 10 => ("StoneApologiesModel", "daily", "[I", true)
  | 11 => ("StoneApologiesModel", "cold", "I", false)
  | 12 => ("StoneApologiesModel", "text", "[I", true)
  | 13 => ("StoneApologiesModel", "texted", "I", false)
  | 14 => ("StoneApologiesModel", "place", "I", false)
  | 15 => ("StoneApologiesModel", "number", "I", false)
  | 16 => ("StoneApologiesModel", "readBlocks", "I", false)
  | 17 => ("StoneApologiesModel", "readBlock", "[I", true)
  | 18 => ("StoneApologiesModel", "readWords", "I", false)
  | 19 => ("StoneApologiesModel", "readWord", "[I", true)
  | 20 => ("StoneApologiesModel", "readSpeakers", "I", false)
  | 21 => ("StoneApologiesModel", "readSpeaker", "[I", true)
  | 22 => ("StoneApologiesModel", "readCold", "I", false)
  | 23 => ("StoneApologiesModel", "readPromised", "[I", true)
  | 24 => ("StoneApologiesModel", "tried", "[I", true)
  | 25 => ("StoneApologiesModel", "softBy", "[I", true)
  | 26 => ("StoneApologiesModel", "timesSaid", "[I", true)
  | 27 => ("StoneApologiesModel", "hoursSpoken", "[I", true)
  | 28 => ("StoneApologiesModel", "asked", "[I", true)
  | _ => ("StoneApologiesModel", "bestAsked", "[I", true)
def tyX7 : Nat → FieldType := fun k => match k with
  | 0 => .array .int
  | 1 => .int
  | 2 => .int
  | 3 => .int
  | 4 => .array .int
  | 5 => .array .int
  | 6 => .int
  | 7 => .array .int
  | 8 => .int
  | 9 => .array .int
  | 10 => .array .int
  | 11 => .int
  | 12 => .array .int
  | 13 => .int
  | 14 => .int
  | 15 => .int
  | 16 => .int
  | 17 => .array .int
  | 18 => .int
  | 19 => .array .int
  | 20 => .int
  | 21 => .array .int
  | 22 => .int
  | 23 => .array .int
  | 24 => .array .int
  | 25 => .array .int
  | 26 => .array .int
  | 27 => .array .int
  | 28 => .array .int
  | _ => .array .int
abbrev wsX70 : List Cond := u_ws RX7 TX7 30
theorem nmX7 : ∀ a, a < 30 → ∀ b, b < 30 → a ≠ b → (TX7 a).2.1 ≠ (TX7 b).2.1 := by decide +kernel
theorem tyX7_ok : ∀ k, k < 30 → parseFieldDescriptor (TX7 k).2.2.1 = some (tyX7 k) := by decide +kernel
abbrev cX7_init : ByteArray := prog_9_method_1_code
def yX7_init : MethodName := ⟨RX7, "<init>", "()V"⟩
abbrev cX7_in : ByteArray := prog_9_method_3_code
def yX7_in : MethodName := ⟨RX7, "in", "(JJJ)Z"⟩
abbrev cX7_has : ByteArray := prog_9_method_4_code
def yX7_has : MethodName := ⟨RX7, "has", "(II)Z"⟩
abbrev cX7_ones : ByteArray := prog_9_method_5_code
def yX7_ones : MethodName := ⟨RX7, "ones", "(I)I"⟩
abbrev cX7_copy : ByteArray := prog_9_method_6_code
def yX7_copy : MethodName := ⟨RX7, "copy", "(II)V"⟩
abbrev cX7_isBlock : ByteArray := prog_9_method_7_code
def yX7_isBlock : MethodName := ⟨RX7, "isBlock", "(I)Z"⟩
abbrev cX7_isWord : ByteArray := prog_9_method_8_code
def yX7_isWord : MethodName := ⟨RX7, "isWord", "(I)Z"⟩
abbrev cX7_isSpeaker : ByteArray := prog_9_method_9_code
def yX7_isSpeaker : MethodName := ⟨RX7, "isSpeaker", "(I)Z"⟩
abbrev cX7_starts : ByteArray := prog_9_method_10_code
def yX7_starts : MethodName := ⟨RX7, "starts", "()V"⟩
abbrev cX7_addsBlock : ByteArray := prog_9_method_11_code
def yX7_addsBlock : MethodName := ⟨RX7, "addsBlock", "(II)V"⟩
abbrev cX7_addsWord : ByteArray := prog_9_method_12_code
def yX7_addsWord : MethodName := ⟨RX7, "addsWord", "(I)V"⟩
abbrev cX7_addsSpeaker : ByteArray := prog_9_method_13_code
def yX7_addsSpeaker : MethodName := ⟨RX7, "addsSpeaker", "(II)V"⟩
abbrev cX7_begins : ByteArray := prog_9_method_14_code
def yX7_begins : MethodName := ⟨RX7, "begins", "()V"⟩
abbrev cX7_write : ByteArray := prog_9_method_15_code
def yX7_write : MethodName := ⟨RX7, "write", "(I)I"⟩
abbrev cX7_wipe : ByteArray := prog_9_method_16_code
def yX7_wipe : MethodName := ⟨RX7, "wipe", "()I"⟩
abbrev cX7_letterAt : ByteArray := prog_9_method_17_code
def yX7_letterAt : MethodName := ⟨RX7, "letterAt", "(I)I"⟩
abbrev cX7_takesNumber : ByteArray := prog_9_method_18_code
def yX7_takesNumber : MethodName := ⟨RX7, "takesNumber", "(III)Z"⟩
abbrev cX7_takesBlock : ByteArray := prog_9_method_19_code
def yX7_takesBlock : MethodName := ⟨RX7, "takesBlock", "()Z"⟩
abbrev cX7_takesWord : ByteArray := prog_9_method_20_code
def yX7_takesWord : MethodName := ⟨RX7, "takesWord", "()Z"⟩
abbrev cX7_takesSpeaker : ByteArray := prog_9_method_21_code
def yX7_takesSpeaker : MethodName := ⟨RX7, "takesSpeaker", "()Z"⟩
abbrev cX7_takesFrost : ByteArray := prog_9_method_22_code
def yX7_takesFrost : MethodName := ⟨RX7, "takesFrost", "()Z"⟩
abbrev cX7_takesPromise : ByteArray := prog_9_method_23_code
def yX7_takesPromise : MethodName := ⟨RX7, "takesPromise", "()Z"⟩
abbrev cX7_takesItem : ByteArray := prog_9_method_24_code
def yX7_takesItem : MethodName := ⟨RX7, "takesItem", "()Z"⟩
abbrev cX7_faultOf : ByteArray := prog_9_method_25_code
def yX7_faultOf : MethodName := ⟨RX7, "faultOf", "()I"⟩
abbrev cX7_fault : ByteArray := prog_9_method_26_code
def yX7_fault : MethodName := ⟨RX7, "fault", "()I"⟩
abbrev cX7_lay : ByteArray := prog_9_method_27_code
def yX7_lay : MethodName := ⟨RX7, "lay", "()I"⟩
abbrev cX7_block : ByteArray := prog_9_method_28_code
def yX7_block : MethodName := ⟨RX7, "block", "(II)I"⟩
abbrev cX7_word : ByteArray := prog_9_method_29_code
def yX7_word : MethodName := ⟨RX7, "word", "(I)I"⟩
abbrev cX7_speaker : ByteArray := prog_9_method_30_code
def yX7_speaker : MethodName := ⟨RX7, "speaker", "(II)I"⟩
abbrev cX7_heard : ByteArray := prog_9_method_31_code
def yX7_heard : MethodName := ⟨RX7, "heard", "(II)I"⟩
abbrev cX7_promised : ByteArray := prog_9_method_32_code
def yX7_promised : MethodName := ⟨RX7, "promised", "(II)I"⟩
abbrev cX7_byKind : ByteArray := prog_9_method_33_code
def yX7_byKind : MethodName := ⟨RX7, "byKind", "(II)I"⟩
abbrev cX7_less : ByteArray := prog_9_method_34_code
def yX7_less : MethodName := ⟨RX7, "less", "(II)I"⟩
abbrev cX7_heardOf : ByteArray := prog_9_method_35_code
def yX7_heardOf : MethodName := ⟨RX7, "heardOf", "(III)I"⟩
abbrev cX7_spoken : ByteArray := prog_9_method_36_code
def yX7_spoken : MethodName := ⟨RX7, "spoken", "(III)I"⟩
abbrev cX7_worthOf : ByteArray := prog_9_method_37_code
def yX7_worthOf : MethodName := ⟨RX7, "worthOf", "(IIII)I"⟩
abbrev cX7_worth : ByteArray := prog_9_method_38_code
def yX7_worth : MethodName := ⟨RX7, "worth", "(III)I"⟩
abbrev cX7_inBed : ByteArray := prog_9_method_39_code
def yX7_inBed : MethodName := ⟨RX7, "inBed", "(II)Z"⟩
abbrev cX7_hears : ByteArray := prog_9_method_40_code
def yX7_hears : MethodName := ⟨RX7, "hears", "(III)Z"⟩
abbrev cX7_comes : ByteArray := prog_9_method_41_code
def yX7_comes : MethodName := ⟨RX7, "comes", "(II)V"⟩
abbrev cX7_says : ByteArray := prog_9_method_42_code
def yX7_says : MethodName := ⟨RX7, "says", "(IIII)V"⟩
abbrev cX7_passes : ByteArray := prog_9_method_43_code
def yX7_passes : MethodName := ⟨RX7, "passes", "(I)V"⟩
abbrev cX7_canSay : ByteArray := prog_9_method_44_code
def yX7_canSay : MethodName := ⟨RX7, "canSay", "(III)Z"⟩
abbrev cX7_isElse : ByteArray := prog_9_method_45_code
def yX7_isElse : MethodName := ⟨RX7, "isElse", "(III)Z"⟩
abbrev cX7_takesFor : ByteArray := prog_9_method_46_code
def yX7_takesFor : MethodName := ⟨RX7, "takesFor", "(III)V"⟩
abbrev cX7_minds : ByteArray := prog_9_method_47_code
def yX7_minds : MethodName := ⟨RX7, "minds", "()V"⟩
abbrev cX7_say : ByteArray := prog_9_method_48_code
def yX7_say : MethodName := ⟨RX7, "say", "(III)I"⟩
abbrev cX7_promise : ByteArray := prog_9_method_49_code
def yX7_promise : MethodName := ⟨RX7, "promise", "(III)I"⟩
abbrev cX7_take : ByteArray := prog_9_method_50_code
def yX7_take : MethodName := ⟨RX7, "take", "(II)I"⟩
abbrev cX7_pass : ByteArray := prog_9_method_51_code
def yX7_pass : MethodName := ⟨RX7, "pass", "(I)I"⟩
abbrev cX7_undo : ByteArray := prog_9_method_52_code
def yX7_undo : MethodName := ⟨RX7, "undo", "()I"⟩
abbrev cX7_tries : ByteArray := prog_9_method_53_code
def yX7_tries : MethodName := ⟨RX7, "tries", "()V"⟩
abbrev cX7_bringsOut : ByteArray := prog_9_method_54_code
def yX7_bringsOut : MethodName := ⟨RX7, "bringsOut", "(II)Z"⟩
abbrev cX7_least : ByteArray := prog_9_method_55_code
def yX7_least : MethodName := ⟨RX7, "least", "(II)I"⟩
abbrev cX7_bestOf : ByteArray := prog_9_method_56_code
def yX7_bestOf : MethodName := ⟨RX7, "bestOf", "(II)I"⟩
abbrev cX7_best : ByteArray := prog_9_method_57_code
def yX7_best : MethodName := ⟨RX7, "best", "(I)I"⟩
abbrev cX7_asks : ByteArray := prog_9_method_58_code
def yX7_asks : MethodName := ⟨RX7, "asks", "(II)V"⟩
abbrev cX7_bedOf : ByteArray := prog_9_method_59_code
def yX7_bedOf : MethodName := ⟨RX7, "bedOf", "()I"⟩
abbrev cX7_bestOrder : ByteArray := prog_9_method_60_code
def yX7_bestOrder : MethodName := ⟨RX7, "bestOrder", "()I"⟩
abbrev cX7_order : ByteArray := prog_9_method_61_code
def yX7_order : MethodName := ⟨RX7, "order", "(I)I"⟩
abbrev cX7_bestWord : ByteArray := prog_9_method_62_code
def yX7_bestWord : MethodName := ⟨RX7, "bestWord", "(II)I"⟩
abbrev cX7_days : ByteArray := prog_9_method_63_code
def yX7_days : MethodName := ⟨RX7, "days", "(II)I"⟩
abbrev cX7_frost : ByteArray := prog_9_method_64_code
def yX7_frost : MethodName := ⟨RX7, "frost", "(I)I"⟩
abbrev cX7_uses : ByteArray := prog_9_method_65_code
def yX7_uses : MethodName := ⟨RX7, "uses", "(I)I"⟩
abbrev cX7_harmOf : ByteArray := prog_9_method_66_code
def yX7_harmOf : MethodName := ⟨RX7, "harmOf", "(II)I"⟩
abbrev cX7_harm : ByteArray := prog_9_method_67_code
def yX7_harm : MethodName := ⟨RX7, "harm", "(I)I"⟩
abbrev cX7_lies : ByteArray := prog_9_method_68_code
def yX7_lies : MethodName := ⟨RX7, "lies", "(II)Z"⟩
abbrev cX7_liars : ByteArray := prog_9_method_69_code
def yX7_liars : MethodName := ⟨RX7, "liars", "()I"⟩
abbrev cX7_said : ByteArray := prog_9_method_70_code
def yX7_said : MethodName := ⟨RX7, "said", "(III)I"⟩
abbrev cX7_deaf : ByteArray := prog_9_method_71_code
def yX7_deaf : MethodName := ⟨RX7, "deaf", "(IIIIII)I"⟩
abbrev cX7_manyHow : ByteArray := prog_9_method_72_code
def yX7_manyHow : MethodName := ⟨RX7, "manyHow", "(II)I"⟩
abbrev cX7_doesBy : ByteArray := prog_9_method_73_code
def yX7_doesBy : MethodName := ⟨RX7, "doesBy", "(I)V"⟩
abbrev cX7_year : ByteArray := prog_9_method_74_code
def yX7_year : MethodName := ⟨RX7, "year", "(III)I"⟩
abbrev cX7_keep : ByteArray := prog_9_method_75_code
def yX7_keep : MethodName := ⟨RX7, "keep", "()I"⟩
abbrev cX7_back : ByteArray := prog_9_method_76_code
def yX7_back : MethodName := ⟨RX7, "back", "()I"⟩
abbrev cX7_count : ByteArray := prog_9_method_77_code
def yX7_count : MethodName := ⟨RX7, "count", "(I)I"⟩
def RJ6 : String := "java/lang/Integer"
def TJ6 : u_T := fun k => match k with
  | _ => ("", "", "", false)
def tyJ6 : Nat → FieldType := fun k => match k with
  | _ => .int
abbrev wsJ60 : List Cond := u_ws RJ6 TJ6 0
theorem nmJ6 : ∀ a, a < 0 → ∀ b, b < 0 → a ≠ b → (TJ6 a).2.1 ≠ (TJ6 b).2.1 := by decide +kernel
theorem tyJ6_ok : ∀ k, k < 0 → parseFieldDescriptor (TJ6 k).2.2.1 = some (tyJ6 k) := by decide +kernel
abbrev cJ6_bitCount_0f7a4 : ByteArray := prog_10_method_49_code
def yJ6_bitCount_0f7a4 : MethodName := ⟨RJ6, "bitCount", "(I)I"⟩
def RJ9 : String := "java/lang/Math"
def TJ9 : u_T := fun k => match k with
  | _ => ("", "", "", false)
def tyJ9 : Nat → FieldType := fun k => match k with
  | _ => .int
abbrev wsJ90 : List Cond := u_ws RJ9 TJ9 0
theorem nmJ9 : ∀ a, a < 0 → ∀ b, b < 0 → a ≠ b → (TJ9 a).2.1 ≠ (TJ9 b).2.1 := by decide +kernel
theorem tyJ9_ok : ∀ k, k < 0 → parseFieldDescriptor (TJ9 k).2.2.1 = some (tyJ9 k) := by decide +kernel
abbrev cJ9_max_7cf53 : ByteArray := prog_11_method_65_code
def yJ9_max_7cf53 : MethodName := ⟨RJ9, "max", "(II)I"⟩
def RJ0 : String := "java/lang/String"
def TJ0 : u_T := fun k => match k with
  | _ => ("", "", "", false)
def tyJ0 : Nat → FieldType := fun k => match k with
  | _ => .int
abbrev wsJ00 : List Cond := u_ws RJ0 TJ0 0
theorem nmJ0 : ∀ a, a < 0 → ∀ b, b < 0 → a ≠ b → (TJ0 a).2.1 ≠ (TJ0 b).2.1 := by decide +kernel
theorem tyJ0_ok : ∀ k, k < 0 → parseFieldDescriptor (TJ0 k).2.2.1 = some (tyJ0 k) := by decide +kernel
abbrev cJ0_length_8abf5 : ByteArray := prog_12_method_54_code
def yJ0_length_8abf5 : MethodName := ⟨RJ0, "length", "()I"⟩
abbrev cJ0_charAt_5068e : ByteArray := prog_12_method_56_code
def yJ0_charAt_5068e : MethodName := ⟨RJ0, "charAt", "(I)C"⟩
abbrev cJ0_coder_7d493 : ByteArray := prog_12_method_152_code
def yJ0_coder_7d493 : MethodName := ⟨RJ0, "coder", "()B"⟩
abbrev cJ0_isLatin1_aae02 : ByteArray := prog_12_method_154_code
def yJ0_isLatin1_aae02 : MethodName := ⟨RJ0, "isLatin1", "()Z"⟩
abbrev cJ0_checkIndex_df160 : ByteArray := prog_12_method_155_code
def yJ0_checkIndex_df160 : MethodName := ⟨RJ0, "checkIndex", "(II)V"⟩
def RJ1 : String := "java/lang/StringLatin1"
def TJ1 : u_T := fun k => match k with
  | _ => ("", "", "", false)
def tyJ1 : Nat → FieldType := fun k => match k with
  | _ => .int
abbrev wsJ10 : List Cond := u_ws RJ1 TJ1 0
theorem nmJ1 : ∀ a, a < 0 → ∀ b, b < 0 → a ≠ b → (TJ1 a).2.1 ≠ (TJ1 b).2.1 := by decide +kernel
theorem tyJ1_ok : ∀ k, k < 0 → parseFieldDescriptor (TJ1 k).2.2.1 = some (tyJ1 k) := by decide +kernel
abbrev cJ1_charAt_3b067 : ByteArray := prog_13_method_2_code
def yJ1_charAt_3b067 : MethodName := ⟨RJ1, "charAt", "([BI)C"⟩
def RJ2 : String := "java/lang/StringUTF16"
def TJ2 : u_T := fun k => match k with
  | _ => ("", "", "", false)
def tyJ2 : Nat → FieldType := fun k => match k with
  | _ => .int
abbrev wsJ20 : List Cond := u_ws RJ2 TJ2 0
theorem nmJ2 : ∀ a, a < 0 → ∀ b, b < 0 → a ≠ b → (TJ2 a).2.1 ≠ (TJ2 b).2.1 := by decide +kernel
theorem tyJ2_ok : ∀ k, k < 0 → parseFieldDescriptor (TJ2 k).2.2.1 = some (tyJ2 k) := by decide +kernel
abbrev cJ2_getChar_3b067 : ByteArray := prog_14_method_5_code
def yJ2_getChar_3b067 : MethodName := ⟨RJ2, "getChar", "([BI)C"⟩
abbrev cJ2_length_9d52b : ByteArray := prog_14_method_6_code
def yJ2_length_9d52b : MethodName := ⟨RJ2, "length", "([B)I"⟩
abbrev cJ2_charAt_3b067 : ByteArray := prog_14_method_83_code
def yJ2_charAt_3b067 : MethodName := ⟨RJ2, "charAt", "([BI)C"⟩
abbrev cJ2_checkIndex_2214a : ByteArray := prog_14_method_91_code
def yJ2_checkIndex_2214a : MethodName := ⟨RJ2, "checkIndex", "(I[B)V"⟩
def RJ3 : String := "jdk/internal/util/Preconditions"
def TJ3 : u_T := fun k => match k with
  | _ => ("", "", "", false)
def tyJ3 : Nat → FieldType := fun k => match k with
  | _ => .int
abbrev wsJ30 : List Cond := u_ws RJ3 TJ3 0
theorem nmJ3 : ∀ a, a < 0 → ∀ b, b < 0 → a ≠ b → (TJ3 a).2.1 ≠ (TJ3 b).2.1 := by decide +kernel
theorem tyJ3_ok : ∀ k, k < 0 → parseFieldDescriptor (TJ3 k).2.2.1 = some (tyJ3 k) := by decide +kernel
abbrev cJ3_checkIndex_8e157 : ByteArray := prog_15_method_11_code
def yJ3_checkIndex_8e157 : MethodName := ⟨RJ3, "checkIndex", "(IILjava/util/function/BiFunction;)I"⟩
def RL : String := "StoneApologiesLaw"
abbrev cL_law : ByteArray := code
def yL_law : MethodName := ⟨RL, "law", "([I)Z"⟩
abbrev vwCl : List vw_C := [(RX0, TX0, 12), (RX1, TX1, 5), (RX2, TX2, 3), (RX3, TX3, 8), (RX4, TX4, 2), (RX5, TX5, 4), (RX6, TX6, 9), (RX7, TX7, 30)]
end
section
/-! THE LITTLE MACHINE: values are numbers or typed places (kind, place); a heap is a map place -> index -> Int32; refs in cells are fixed by the shape. A table gives each instruction as a function to one of four forms: go, branch, return, call. -/
abbrev QV : Type := Int32 ⊕ (Int64 ⊕ (Nat × Nat))
abbrev QL : Type := List (Nat × QV)
abbrev QH : Type := Nat → Nat → Int32
abbrev QS : Type := Nat × (QL × (List QV × QH))
abbrev QR : Type := Option QV × QH
abbrev QE : Type := Nat × (List QV × QH)
abbrev QC : Type := (QH → QS) ⊕ ((Int32 → QH → QS) ⊕ ((QH → QS) × (Nat → QH → QS)))
abbrev QW : Type := Int32 × (List (Int32 × QS) × QS)
abbrev QN : Type := Option ((Bool × QS) ⊕ ((Bool × (QS × QS)) ⊕ ((Bool × QR) ⊕ ((Bool × (QE × QC)) ⊕ QW))))
abbrev QO : Type := QL → List QV → QH → QN
abbrev QT : Type := Nat → Nat → Option QO
abbrev QK : Type := Nat → Nat → Option (List Nat)
def q_big : QV → Bool
  | .inr (.inl _) => true
  | _ => false
def q_la : Nat → List QV → QL
  | _, [] => []
  | i, v :: vs => (i, v) :: q_la (cond (q_big v) (i + 2) (i + 1)) vs
def q_lk : QL → Nat → Option QV
  | [], _ => none
  | (j, v) :: l, i => cond (Nat.beq j i) (some v) (q_lk l i)
def q_mem (i : Nat) : List Nat → Bool
  | [] => false
  | j :: l => cond (Nat.beq j i) true (q_mem i l)
def q_kp (ks : List Nat) : QL → QL
  | [] => []
  | (j, v) :: l => cond (q_mem j ks) ((j, v) :: q_kp ks l) (q_kp ks l)
def q_rm (i : Nat) : QL → QL
  | [] => []
  | (j, v) :: l => cond (Nat.beq j i) (q_rm i l) (cond (cond (Nat.beq (j + 1) i) (q_big v) false) (q_rm i l) ((j, v) :: q_rm i l))
def q_in (i : Nat) (v : QV) : QL → QL
  | [] => [(i, v)]
  | (j, w) :: l => cond (Nat.ble i j) ((i, v) :: (j, w) :: l) ((j, w) :: q_in i v l)
def q_st (i : Nat) (v : QV) (l : QL) : QL := q_in i v (q_rm i l)
def q_st2 (i : Nat) (v : QV) (l : QL) : QL := q_in i v (q_rm (i + 1) (q_rm i l))
def q_cV (r : Option QR) (k : QH → Option QR) : Option QR := match r with
  | some (none, H) => k H
  | _ => none
def q_cI (r : Option QR) (k : Int32 → QH → Option QR) : Option QR := match r with
  | some (some (.inl x), H) => k x H
  | _ => none
def q_cR (r : Option QR) (k0 : QH → Option QR) (k5 : Nat → QH → Option QR) : Option QR := match r with
  | some (some (.inr (.inr (0, _))), H) => k0 H
  | some (some (.inr (.inr (5, p))), H) => k5 p H
  | _ => none
def q_pick (x : Int32) (d : QS) : List (Int32 × QS) → QS
  | [] => d
  | (k, t) :: l => if x = k then t else q_pick x d l
def q_sw (K : QS → Option QR) (x : Int32) (d : QS) : List (Int32 × QS) → Option QR
  | [] => K d
  | (k, t) :: l => cond (decide (x = k)) (K t) (q_sw K x d l)
theorem q_sw_eq (K : QS → Option QR) (x : Int32) (d : QS) (l : List (Int32 × QS)) : q_sw K x d l = K (q_pick x d l) := by
  induction l with
  | nil => rfl
  | cons q l ih =>
    obtain ⟨k, t⟩ := q
    unfold q_sw q_pick
    by_cases h : x = k
    · simp [h]
    · simp [h, ih]
def q_run (Kc : QE → Option QR) (K : QS → Option QR) : QN → Option QR
  | none => none
  | some (.inl (b, t)) => cond b (K t) none
  | some (.inr (.inl (b, (t, u)))) => cond b (K t) (K u)
  | some (.inr (.inr (.inl (b, r)))) => cond b (some r) none
  | some (.inr (.inr (.inr (.inl (b, (e, .inl f)))))) => cond b (q_cV (Kc e) (fun H => K (f H))) none
  | some (.inr (.inr (.inr (.inl (b, (e, .inr (.inl f))))))) => cond b (q_cI (Kc e) (fun x H => K (f x H))) none
  | some (.inr (.inr (.inr (.inl (b, (e, .inr (.inr (f, g)))))))) => cond b (q_cR (Kc e) (fun H => K (f H)) (fun p H => K (g p H))) none
  | some (.inr (.inr (.inr (.inr (x, (l, d)))))) => q_sw K x d l
theorem q_cV_some {r : Option QR} {k : QH → Option QR} {z : QR} (h : q_cV r k = some z) : ∃ H, r = some (none, H) ∧ k H = some z := by
  unfold q_cV at h
  split at h
  · exact ⟨_, rfl, h⟩
  · cases h
theorem q_cI_some {r : Option QR} {k : Int32 → QH → Option QR} {z : QR} (h : q_cI r k = some z) : ∃ x H, r = some (some (.inl x), H) ∧ k x H = some z := by
  unfold q_cI at h
  split at h
  · exact ⟨_, _, rfl, h⟩
  · cases h
theorem q_cR_some {r : Option QR} {k0 : QH → Option QR} {k5 : Nat → QH → Option QR} {z : QR} (h : q_cR r k0 k5 = some z) : (∃ y H, r = some (some (.inr (.inr (0, y))), H) ∧ k0 H = some z) ∨ (∃ p H, r = some (some (.inr (.inr (5, p))), H) ∧ k5 p H = some z) := by
  unfold q_cR at h
  split at h
  · exact Or.inl ⟨_, _, rfl, h⟩
  · exact Or.inr ⟨_, _, rfl, h⟩
  · cases h
theorem q_cond {b : Bool} {x : Option QR} {z : QR} (h : cond b x none = some z) : b = true ∧ x = some z := by
  cases b
  · cases h
  · exact ⟨rfl, h⟩
/-- what a run used is used at finitely many places: it is kept when the two maps grow -/
theorem q_run_mono {Kc Kc' : QE → Option QR} {K K' : QS → Option QR} (hc : ∀ e r, Kc e = some r → Kc' e = some r) (hk : ∀ t r, K t = some r → K' t = some r) : ∀ (N : QN) (r : QR), q_run Kc K N = some r → q_run Kc' K' N = some r
  | none, r, h => by cases h
  | some (.inl (b, t)), r, h => by
    obtain ⟨rfl, h2⟩ := q_cond h
    exact hk _ _ h2
  | some (.inr (.inl (b, (t, u)))), r, h => by
    cases b
    · exact hk u r h
    · exact hk t r h
  | some (.inr (.inr (.inl (b, z)))), r, h => h
  | some (.inr (.inr (.inr (.inl (b, (e, .inl f)))))), r, h => by
    obtain ⟨rfl, h2⟩ := q_cond h
    obtain ⟨H, h3, h4⟩ := q_cV_some h2
    show q_cV (Kc' e) _ = some r
    rw [hc _ _ h3]
    exact hk _ _ h4
  | some (.inr (.inr (.inr (.inl (b, (e, .inr (.inl f))))))), r, h => by
    obtain ⟨rfl, h2⟩ := q_cond h
    obtain ⟨x, H, h3, h4⟩ := q_cI_some h2
    show q_cI (Kc' e) _ = some r
    rw [hc _ _ h3]
    exact hk _ _ h4
  | some (.inr (.inr (.inr (.inl (b, (e, .inr (.inr (f, g)))))))), r, h => by
    obtain ⟨rfl, h2⟩ := q_cond h
    show q_cR (Kc' e) _ _ = some r
    rcases q_cR_some h2 with ⟨y, H, h3, h4⟩ | ⟨y, H, h3, h4⟩
    · rw [hc _ _ h3]; exact hk _ _ h4
    · rw [hc _ _ h3]; exact hk _ _ h4
  | some (.inr (.inr (.inr (.inr (x, (l, d)))))), r, h => by
    have h : q_sw K x d l = some r := h
    show q_sw K' x d l = some r
    rw [q_sw_eq] at h ⊢
    exact hk _ _ h
theorem q_run_cont {Kc : Nat → QE → Option QR} {K : Nat → QS → Option QR} {Lc : QE → Option QR} {L : QS → Option QR} (mc : ∀ i j e r, i ≤ j → Kc i e = some r → Kc j e = some r) (mk : ∀ i j t r, i ≤ j → K i t = some r → K j t = some r) (hc : ∀ e r, Lc e = some r → ∃ n, Kc n e = some r) (hk : ∀ t r, L t = some r → ∃ n, K n t = some r) : ∀ (N : QN) (r : QR), q_run Lc L N = some r → ∃ n, q_run (Kc n) (K n) N = some r
  | none, r, h => by cases h
  | some (.inl (b, t)), r, h => by
    obtain ⟨rfl, h2⟩ := q_cond h
    exact hk _ _ h2
  | some (.inr (.inl (b, (t, u)))), r, h => by
    cases b
    · exact hk u r h
    · exact hk t r h
  | some (.inr (.inr (.inl (b, z)))), r, h => ⟨0, h⟩
  | some (.inr (.inr (.inr (.inl (b, (e, .inl f)))))), r, h => by
    obtain ⟨rfl, h2⟩ := q_cond h
    obtain ⟨H, h3, h4⟩ := q_cV_some h2
    obtain ⟨n1, e1⟩ := hc _ _ h3
    obtain ⟨n2, e2⟩ := hk _ _ h4
    refine ⟨max n1 n2, ?_⟩
    show q_cV (Kc (max n1 n2) e) _ = some r
    rw [mc _ _ _ _ (Nat.le_max_left n1 n2) e1]
    exact mk _ _ _ _ (Nat.le_max_right n1 n2) e2
  | some (.inr (.inr (.inr (.inl (b, (e, .inr (.inl f))))))), r, h => by
    obtain ⟨rfl, h2⟩ := q_cond h
    obtain ⟨x, H, h3, h4⟩ := q_cI_some h2
    obtain ⟨n1, e1⟩ := hc _ _ h3
    obtain ⟨n2, e2⟩ := hk _ _ h4
    refine ⟨max n1 n2, ?_⟩
    show q_cI (Kc (max n1 n2) e) _ = some r
    rw [mc _ _ _ _ (Nat.le_max_left n1 n2) e1]
    exact mk _ _ _ _ (Nat.le_max_right n1 n2) e2
  | some (.inr (.inr (.inr (.inl (b, (e, .inr (.inr (f, g)))))))), r, h => by
    obtain ⟨rfl, h2⟩ := q_cond h
    rcases q_cR_some h2 with ⟨y, H, h3, h4⟩ | ⟨y, H, h3, h4⟩
    · obtain ⟨n1, e1⟩ := hc _ _ h3
      obtain ⟨n2, e2⟩ := hk _ _ h4
      refine ⟨max n1 n2, ?_⟩
      show q_cR (Kc (max n1 n2) e) _ _ = some r
      rw [mc _ _ _ _ (Nat.le_max_left n1 n2) e1]
      exact mk _ _ _ _ (Nat.le_max_right n1 n2) e2
    · obtain ⟨n1, e1⟩ := hc _ _ h3
      obtain ⟨n2, e2⟩ := hk _ _ h4
      refine ⟨max n1 n2, ?_⟩
      show q_cR (Kc (max n1 n2) e) _ _ = some r
      rw [mc _ _ _ _ (Nat.le_max_left n1 n2) e1]
      exact mk _ _ _ _ (Nat.le_max_right n1 n2) e2
  | some (.inr (.inr (.inr (.inr (x, (l, d)))))), r, h => by
    have h : q_sw L x d l = some r := h
    rw [q_sw_eq] at h
    obtain ⟨n, hn⟩ := hk _ _ h
    exact ⟨n, by show q_sw (K n) x d l = some r; rw [q_sw_eq]; exact hn⟩
def q_cut (kp : QK) (mid : Nat) (t : QS) : QS := match kp mid t.1 with
  | some ks => (t.1, (q_kp ks t.2.1, t.2.2))
  | none => t
def q_step (tb : QT) (Kc : QE → Option QR) (K : QS → Option QR) (mid : Nat) (t : QS) : Option QR := match tb mid t.1 with
  | some o => q_run Kc K (o t.2.1 t.2.2.1 t.2.2.2)
  | none => none
def q_ev (tb : QT) (kp : QK) : Nat → Nat → Nat → QS → Option QR
  | 0, _, _, _ => none
  | _ + 1, 0, _, _ => none
  | n + 1, d + 1, mid, t => q_step tb (fun e => q_ev tb kp n d e.1 (0, (q_la 0 e.2.1, ([], e.2.2)))) (fun u => q_ev tb kp n (d + 1) mid (q_cut kp mid u)) mid t
theorem q_step_mono {tb : QT} {Kc Kc' : QE → Option QR} {K K' : QS → Option QR} {mid : Nat} {t : QS} {r : QR} (hc : ∀ e r, Kc e = some r → Kc' e = some r) (hk : ∀ t r, K t = some r → K' t = some r) (h : q_step tb Kc K mid t = some r) : q_step tb Kc' K' mid t = some r := by
  unfold q_step at h ⊢
  split at h
  · rename_i o ho
    exact q_run_mono hc hk _ _ h
  · cases h
theorem q_ev_succ (tb : QT) (kp : QK) : ∀ (n d mid : Nat) (t : QS) (r : QR), q_ev tb kp n d mid t = some r → q_ev tb kp (n + 1) d mid t = some r := by
  intro n
  induction n with
  | zero => intro d mid t r h; cases h
  | succ n ih =>
    intro d mid t r h
    cases d with
    | zero => cases h
    | succ d =>
      show q_step tb _ _ mid t = some r
      exact q_step_mono (fun e r h => ih _ _ _ _ h) (fun t r h => ih _ _ _ _ h) h
theorem q_ev_le (tb : QT) (kp : QK) {i j d mid : Nat} {t : QS} {r : QR} (hij : i ≤ j) (h : q_ev tb kp i d mid t = some r) : q_ev tb kp j d mid t = some r := by
  induction hij with
  | refl => exact h
  | step _ ih => exact q_ev_succ tb kp _ _ _ _ _ ih
noncomputable def q_EV (tb : QT) (kp : QK) (d mid : Nat) (t : QS) : Option QR := by
  classical
  exact if h : ∃ r n, q_ev tb kp n d mid t = some r then some (Classical.choose h) else none
theorem q_EV_iff (tb : QT) (kp : QK) (d mid : Nat) (t : QS) (r : QR) : q_EV tb kp d mid t = some r ↔ ∃ n, q_ev tb kp n d mid t = some r := by
  classical
  unfold q_EV
  constructor
  · intro h
    split at h
    · rename_i hx
      cases h
      exact Classical.choose_spec hx
    · cases h
  · rintro ⟨n, hn⟩
    have hx : ∃ r n, q_ev tb kp n d mid t = some r := ⟨r, n, hn⟩
    rw [dif_pos hx]
    obtain ⟨m, hm⟩ := Classical.choose_spec hx
    have h1 := q_ev_le tb kp (Nat.le_max_left n m) hn
    have h2 := q_ev_le tb kp (Nat.le_max_right n m) hm
    rw [h1] at h2
    exact h2.symm
theorem q_oext {a b : Option QR} (h : ∀ r, a = some r ↔ b = some r) : a = b := by
  cases a with
  | none =>
    cases b with
    | none => rfl
    | some y => exact absurd ((h y).mpr rfl) (by simp)
  | some x => exact ((h x).mp rfl).symm
/-- a method's run from its entry -/
noncomputable def q_CL (tb : QT) (kp : QK) (d : Nat) (e : QE) : Option QR := q_EV tb kp d e.1 (0, (q_la 0 e.2.1, ([], e.2.2)))
theorem q_EV_eq (tb : QT) (kp : QK) (d mid : Nat) (t : QS) : q_EV tb kp (d + 1) mid t = q_step tb (q_CL tb kp d) (fun u => q_EV tb kp (d + 1) mid (q_cut kp mid u)) mid t := by
  refine q_oext fun r => ⟨fun h => ?_, fun h => ?_⟩
  · obtain ⟨n, hn⟩ := (q_EV_iff tb kp _ _ _ _).mp h
    cases n with
    | zero => cases hn
    | succ n => exact q_step_mono (fun e r h => (q_EV_iff tb kp _ _ _ _).mpr ⟨n, h⟩) (fun t r h => (q_EV_iff tb kp _ _ _ _).mpr ⟨n, h⟩) hn
  · unfold q_step at h
    split at h
    · rename_i o ho
      obtain ⟨n, hn⟩ := q_run_cont (Kc := fun n e => q_ev tb kp n d e.1 (0, (q_la 0 e.2.1, ([], e.2.2)))) (K := fun n u => q_ev tb kp n (d + 1) mid (q_cut kp mid u)) (fun i j e r hij h => q_ev_le tb kp hij h) (fun i j t r hij h => q_ev_le tb kp hij h) (fun e r h => (q_EV_iff tb kp _ _ _ _).mp h) (fun t r h => (q_EV_iff tb kp _ _ _ _).mp h) _ _ h
      refine (q_EV_iff tb kp _ _ _ _).mpr ⟨n + 1, ?_⟩
      show q_step tb _ _ mid t = some r
      unfold q_step
      rw [ho]
      exact hn
    · cases h
noncomputable def q_go (tb : QT) (kp : QK) (d mid : Nat) : Nat → QS → Option QR
  | 0, t => q_EV tb kp (d + 1) mid t
  | k + 1, t => q_step tb (q_CL tb kp d) (fun u => match kp mid u.1 with
    | some ks => q_EV tb kp (d + 1) mid (u.1, (q_kp ks u.2.1, u.2.2))
    | none => q_go tb kp d mid k u) mid t
theorem q_go_eq (tb : QT) (kp : QK) (d mid : Nat) : ∀ (k : Nat) (t : QS), q_go tb kp d mid k t = q_EV tb kp (d + 1) mid t := by
  intro k
  induction k with
  | zero => intro t; rfl
  | succ k ih =>
    intro t
    rw [q_EV_eq]
    show q_step tb _ _ mid t = _
    have e : (fun u : QS => match kp mid u.1 with
      | some ks => q_EV tb kp (d + 1) mid (u.1, (q_kp ks u.2.1, u.2.2))
      | none => q_go tb kp d mid k u) = (fun u => q_EV tb kp (d + 1) mid (q_cut kp mid u)) := by
      funext u
      unfold q_cut
      split
      · rfl
      · exact ih u
    rw [e]
end
section
theorem q_bF {a b : Nat} (h : a ≠ b) : Nat.beq a b = false := by
  cases e : Nat.beq a b
  · rfl
  · exact absurd (Nat.eq_of_beq_eq_true e) h
theorem q_bT {a b : Nat} (h : a = b) : Nat.beq a b = true := by subst h; exact Nat.beq_refl a
theorem q_lT {a b : Nat} (h : a ≤ b) : Nat.ble a b = true := Nat.ble_eq_true_of_le h
theorem q_lF {a b : Nat} (h : b < a) : Nat.ble a b = false := by
  cases e : Nat.ble a b
  · rfl
  · exact absurd (Nat.le_of_ble_eq_true e) (by omega)
/-! WORLDS of the little machine: the shape of all cells, fixed for ever once the two objects are made; what a state of it says of the machine's own heap -/
abbrev QX : Type := Nat × (Nat → Int32)
abbrev QG : Type := ((Nat → ClassId) × (Nat → Nat → Nat)) × ((Nat → Nat) × (ClassId × ClassId))
def q_ad (g : QG) : Nat → Nat := g.2.1
def q_c (g : QG) : QV → Value
  | .inl x => .int x
  | .inr (.inl x) => .long x
  | .inr (.inr (0, _)) => .null
  | .inr (.inr (_ + 1, p)) => .ref (q_ad g p)
def q_cl (g : QG) (q : Nat × QV) : Nat × Value := (q.1, q_c g q.2)
-- kinds: 1 Bed, 2 Orders, 3 the Pile of 8, 4 the Pile of 2, 5 Quarry, 6 Rows, 7 Text, 8 StoneApologies, 9 StoneApologiesModel, 10 the script; 20 + n: n Quarries; 100 + n: n ints
def q_shq : List Nat := [5, 106, 106, 106, 104, 136, 124]
def q_shb : List Nat := [1, 106, 106, 106, 104, 104, 124, 136, 244]
def q_shl : List Nat := [8, 7, 300, 103] ++ q_shb ++ q_shb ++ q_shq ++ q_shq ++ [3, 28] ++ q_shq ++ q_shq ++ q_shq ++ q_shq ++ q_shq ++ q_shq ++ q_shq ++ q_shq ++ [4, 22] ++ q_shq ++ q_shq ++ [6, 104] ++ [2, 27] ++ q_shq ++ q_shq ++ q_shq ++ q_shq ++ q_shq ++ q_shq ++ q_shq ++ [106, 106] ++ [9, 1677, 106, 106, 106, 104, 104, 300, 112, 106, 108, 124, 105, 105, 106, 104, 107, 106]
def q_sh (p : Nat) : Nat := q_shl.getD p 0
def q_cio (k : Nat) : Nat := [99, 0, 1, 2, 2, 3, 4, 5, 6, 7].getD k 99
def q_nf (k : Nat) : Nat := [0, 12, 5, 3, 3, 8, 2, 4, 9, 30].getD k 0
/-- an object's field that is a reference: the kind of what it holds; whether its place is told from the object's own; how far -/
def q_frl : List (List (Option (Nat × (Bool × Nat)))) := [[],
  [none, none, none, none, some (106, (true, 1)), some (106, (true, 2)), some (106, (true, 3)), some (104, (true, 4)), some (104, (true, 5)), some (124, (true, 6)), some (136, (true, 7)), some (244, (true, 8))],
  [some (27, (true, 1)), some (106, (true, 51)), some (106, (true, 52)), none, none],
  [some (28, (true, 1)), none, none],
  [some (22, (true, 1)), none, none],
  [some (1, (false, 4)), none, some (106, (true, 1)), some (106, (true, 2)), some (106, (true, 3)), some (104, (true, 4)), some (136, (true, 5)), some (124, (true, 6))],
  [some (5, (false, 29)), some (104, (true, 1))],
  [some (300, (true, 1)), some (103, (true, 2)), none, none],
  [some (7, (false, 1)), some (1, (false, 4)), some (1, (false, 13)), some (5, (false, 22)), some (5, (false, 29)), some (3, (false, 36)), some (4, (false, 94)), some (6, (false, 110)), some (2, (false, 112))],
  [some (1677, (true, 1)), none, none, none, some (106, (true, 2)), some (106, (true, 3)), none, some (106, (true, 4)), none, some (104, (true, 5)), some (104, (true, 6)), none, some (300, (true, 7)), none, none, none, none, some (112, (true, 8)), none, some (106, (true, 9)), none, some (108, (true, 10)), none, some (124, (true, 11)), some (105, (true, 12)), some (105, (true, 13)), some (106, (true, 14)), some (104, (true, 15)), some (107, (true, 16)), some (106, (true, 17))]]
def q_fr (k j : Nat) : Option (Nat × (Bool × Nat)) := (q_frl.getD k []).getD j none
def q_tg (p : Nat) (o : Nat × (Bool × Nat)) : Nat := cond o.2.1 (p + o.2.2) o.2.2
def q_rv (p : Nat) (o : Nat × (Bool × Nat)) : QV := .inr (.inr (o.1, q_tg p o))
def q_fv (g : QG) (H : QH) (k p j : Nat) : Value := match q_fr k j with
  | none => .int (H p j)
  | some o => q_c g (q_rv p o)
def q_fs (g : QG) (H : QH) (k p : Nat) : List Value := (List.range (q_nf k)).map (q_fv g H k p)
def q_ek (g : QG) (H : QH) (k p : Nat) : va_E := if 100 ≤ k then .inl (g.2.2.1, (k - 100, .inl (H p))) else if 20 ≤ k then .inl (g.2.2.2, (k - 20, .inr (.inr (.inr (.inr (fun j => some (q_ad g (p + 1 + 7 * j)))))))) else .inr (q_cio k, q_fs g H k p)
def q_en (g : QG) (H : QH) (p : Nat) : va_E := q_ek g H (q_sh p) p
def q_wd (g : QG) (H : QH) : va_W := (List.range 183).map (fun p => (q_ad g p, q_en g H p))
def q_A (g : QG) : Nat → Prop := fun q => ∃ p, p < 183 ∧ q = q_ad g p
def q_hs (H : QH) (p j : Nat) (x : Int32) : QH := fun a b => cond (Nat.beq a p) (cond (Nat.beq b j) x (H a b)) (H a b)
theorem q_hs_ne {H : QH} {p j a : Nat} {x : Int32} (h : a ≠ p) : q_hs H p j x a = H a := by
  funext b
  unfold q_hs
  rw [show Nat.beq a p = false from q_bF h]
  rfl
theorem q_hs_eq {H : QH} {p j : Nat} {x : Int32} : q_hs H p j x p = upd (H p) j x := by
  funext b
  unfold q_hs upd
  rw [show Nat.beq p p = true from q_bT rfl]
  by_cases hb : b = j
  · subst hb; rw [q_bT rfl]; simp
  · rw [show Nat.beq b j = false from q_bF hb]; simp [hb]
theorem q_wd_get (g : QG) (H : QH) {p : Nat} (h : p < 183) : (q_wd g H)[p]? = some (q_ad g p, q_en g H p) := by
  unfold q_wd
  rw [List.getElem?_map, List.getElem?_range h]
  rfl
theorem q_wd_in {g : QG} {H : QH} {k : Nat} {q : Nat × va_E} (h : (q_wd g H)[k]? = some q) : k < 183 ∧ q = (q_ad g k, q_en g H k) := by
  have hl : k < (q_wd g H).length := (List.getElem?_eq_some_iff.mp h).1
  have hk : k < 183 := by simpa [q_wd] using hl
  rw [q_wd_get g H hk] at h
  exact ⟨hk, (Option.some.inj h).symm⟩
theorem q_wd_set (g : QG) {H H' : QH} {p : Nat} (hp : p < 183) (hq : ∀ q, q ≠ p → H' q = H q) : (q_wd g H).set p (q_ad g p, q_en g H' p) = q_wd g H' := by
  refine List.ext_getElem? fun i => ?_
  have hlen : (q_wd g H).length = 183 := by simp [q_wd]
  by_cases hi : i = p
  · subst hi
    rw [List.getElem?_set_self (by rw [hlen]; exact hp), q_wd_get g H' hp]
  · rw [List.getElem?_set_ne (Ne.symm hi)]
    by_cases hl : i < 183
    · rw [q_wd_get g H hl, q_wd_get g H' hl]
      have e : q_en g H i = q_en g H' i := by
        have h1 := hq i hi
        unfold q_en q_ek q_fs
        have e2 : q_fv g H (q_sh i) i = q_fv g H' (q_sh i) i := by
          funext j
          unfold q_fv
          rw [h1]
        rw [h1, e2]
      rw [e]
    · have h1 : (q_wd g H).length ≤ i := by rw [hlen]; omega
      have h2 : (q_wd g H').length ≤ i := by simp [q_wd]; omega
      rw [List.getElem?_eq_none h1, List.getElem?_eq_none h2]
def q_inj (g : QG) : Prop := ∀ i j, i < 184 → j < 184 → q_ad g i = q_ad g j → i = j
theorem q_wd_D {g : QG} (hJ : q_inj g) (H : QH) : va_D (q_A g) (q_wd g H) := by
  refine ⟨fun i j x y hi hj hxy => ?_, fun k q hk => ?_⟩
  · obtain ⟨h1, rfl⟩ := q_wd_in hi
    obtain ⟨h2, rfl⟩ := q_wd_in hj
    exact hJ i j (by omega) (by omega) hxy
  · obtain ⟨h1, rfl⟩ := q_wd_in hk
    exact ⟨k, h1, rfl⟩
/-- a value that is a reference is the place of a cell of its kind -/
def q_vd : QV → Prop
  | .inr (.inr (k + 1, p)) => (k + 1 = 10 ∧ p = 183) ∨ (p < 183 ∧ q_sh p = k + 1)
  | _ => True
def q_okL (ls : QL) : Prop := ∀ q ∈ ls, q_vd q.2
def q_okS (st : List QV) : Prop := ∀ v ∈ st, q_vd v
def q_ok (t : QS) : Prop := q_okL t.2.1 ∧ q_okS t.2.2.1
def q_okR (r : QR) : Prop := ∀ v, r.1 = some v → q_vd v
def q_cats : List QV → Nat
  | [] => 0
  | v :: st => cond (q_big v) 2 1 + q_cats st
theorem q_okS_nil : q_okS [] := fun _ h => by cases h
theorem q_okS_cons {v : QV} {st : List QV} (h1 : q_vd v) (h2 : q_okS st) : q_okS (v :: st) := fun w hw => (List.mem_cons.mp hw).elim (fun e => e ▸ h1) (h2 w)
theorem q_okS_tl {v : QV} {st : List QV} (h : q_okS (v :: st)) : q_okS st := fun w hw => h w (List.mem_cons_of_mem _ hw)
theorem q_okS_hd {v : QV} {st : List QV} (h : q_okS (v :: st)) : q_vd v := h v List.mem_cons_self
theorem q_vI (x : Int32) : q_vd (.inl x) := trivial
theorem q_vJ (x : Int64) : q_vd (.inr (.inl x)) := trivial
-- shapes are consistent
def q_chk (p : Nat) : Bool := (List.range (q_nf (q_sh p))).all (fun j => match q_fr (q_sh p) j with
  | none => true
  | some o => Nat.beq (q_sh (q_tg p o)) o.1 && Nat.ble (q_tg p o + 1) 183 && !(Nat.beq o.1 10) && Nat.ble 1 o.1)
def q_chq (p : Nat) : Bool := cond (Nat.ble 100 (q_sh p)) true (cond (Nat.ble 20 (q_sh p)) ((List.range (q_sh p - 20)).all (fun i => Nat.beq (q_sh (p + 1 + 7 * i)) 5 && Nat.ble (p + 1 + 7 * i + 1) 183)) (Nat.ble 1 (q_sh p) && Nat.ble (q_sh p) 9))
theorem q_chk_all : (List.range 183).all (fun p => q_chk p && q_chq p) = true := by decide +kernel
theorem q_chk_at {p : Nat} (hp : p < 183) : q_chk p = true ∧ q_chq p = true := by
  have h := List.all_eq_true.mp q_chk_all p (List.mem_range.mpr hp)
  simpa [Bool.and_eq_true] using h
theorem q_fr_lt : ∀ k j o, q_fr k j = some o → j < q_nf k ∧ k < 10 := by
  intro k j o h
  have hk : k < 10 := by
    rcases Nat.lt_or_ge k 10 with h1 | h1
    · exact h1
    · exfalso
      have e : q_frl.getD k [] = [] := by rw [List.getD_eq_getElem?_getD, List.getElem?_eq_none (show q_frl.length ≤ k from h1)]; rfl
      unfold q_fr at h
      rw [e] at h
      simp at h
  refine ⟨?_, hk⟩
  rcases Nat.lt_or_ge j (q_nf k) with h1 | h1
  · exact h1
  · exfalso
    unfold q_fr at h
    have hl : (q_frl.getD k []).length = q_nf k := by
      have : ∀ k, k < 10 → (q_frl.getD k []).length = q_nf k := by decide +kernel
      exact this k hk
    rw [List.getD_eq_getElem?_getD (l := q_frl.getD k []), List.getElem?_eq_none (by rw [hl]; exact h1)] at h
    simp at h
theorem q_fr_ok {p j : Nat} {o : Nat × (Bool × Nat)} (hp : p < 183) (h : q_fr (q_sh p) j = some o) : q_vd (q_rv p o) ∧ 1 ≤ o.1 := by
  have h1 := (q_chk_at hp).1
  have h2 := List.all_eq_true.mp h1 j (List.mem_range.mpr (q_fr_lt _ _ _ h).1)
  rw [h] at h2
  obtain ⟨k, o2⟩ := o
  simp only [Bool.and_eq_true] at h2
  obtain ⟨⟨⟨h3, h4⟩, h5⟩, h6⟩ := h2
  have h3 := Nat.eq_of_beq_eq_true h3
  have h4 := Nat.le_of_ble_eq_true h4
  have h6 : 1 ≤ k := Nat.le_of_ble_eq_true h6
  obtain ⟨k, rfl⟩ : ∃ k', k = k' + 1 := ⟨k - 1, by omega⟩
  exact ⟨Or.inr ⟨by omega, h3⟩, h6⟩
theorem q_el_ok {p i : Nat} (hp : p < 183) (h1 : 20 ≤ q_sh p) (h2 : q_sh p < 100) (hi : i < q_sh p - 20) : q_vd (.inr (.inr (5, p + 1 + 7 * i))) := by
  have h := (q_chk_at hp).2
  unfold q_chq at h
  rw [show Nat.ble 100 (q_sh p) = false from q_lF h2, show Nat.ble 20 (q_sh p) = true from q_lT h1] at h
  have h3 := List.all_eq_true.mp h i (List.mem_range.mpr hi)
  simp only [Bool.and_eq_true] at h3
  have h5 := Nat.le_of_ble_eq_true h3.2
  exact Or.inr ⟨by omega, Nat.eq_of_beq_eq_true h3.1⟩
-- locals
theorem q_lk_mem {ls : QL} {i : Nat} {v : QV} (h : q_lk ls i = some v) : (i, v) ∈ ls := by
  induction ls with
  | nil => cases h
  | cons q ls ih =>
    obtain ⟨j, w⟩ := q
    unfold q_lk at h
    by_cases hj : j = i
    · subst hj
      rw [q_bT rfl] at h
      cases h
      exact List.mem_cons_self
    · rw [show Nat.beq j i = false from q_bF hj] at h
      exact List.mem_cons_of_mem _ (ih h)
theorem q_kp_mem {ks : List Nat} {ls : QL} {q : Nat × QV} (h : q ∈ q_kp ks ls) : q ∈ ls := by
  induction ls with
  | nil => exact h
  | cons r ls ih =>
    obtain ⟨j, w⟩ := r
    unfold q_kp at h
    cases hm : q_mem j ks with
    | true =>
      rw [hm] at h
      rcases List.mem_cons.mp h with h1 | h1
      · rw [h1]; exact List.mem_cons_self
      · exact List.mem_cons_of_mem _ (ih h1)
    | false =>
      rw [hm] at h
      exact List.mem_cons_of_mem _ (ih h)
theorem q_in_mem {i : Nat} {v : QV} {ls : QL} {q : Nat × QV} (h : q ∈ q_in i v ls) : q = (i, v) ∨ q ∈ ls := by
  induction ls with
  | nil => exact Or.inl (by simpa [q_in] using h)
  | cons r ls ih =>
    obtain ⟨j, w⟩ := r
    unfold q_in at h
    cases hm : Nat.ble i j with
    | true =>
      rw [hm] at h
      rcases List.mem_cons.mp h with h1 | h1
      · exact Or.inl h1
      · exact Or.inr h1
    | false =>
      rw [hm] at h
      rcases List.mem_cons.mp h with h1 | h1
      · exact Or.inr (by rw [h1]; exact List.mem_cons_self)
      · rcases ih h1 with h2 | h2
        · exact Or.inl h2
        · exact Or.inr (List.mem_cons_of_mem _ h2)
theorem q_rm_mem {i : Nat} {ls : QL} {q : Nat × QV} (h : q ∈ q_rm i ls) : q ∈ ls ∧ q.1 ≠ i ∧ ¬ (q.1 + 1 = i ∧ q_big q.2 = true) := by
  induction ls with
  | nil => cases h
  | cons r ls ih =>
    obtain ⟨j, w⟩ := r
    unfold q_rm at h
    by_cases hj : j = i
    · subst hj
      rw [q_bT rfl] at h
      obtain ⟨h1, h2, h3⟩ := ih h
      exact ⟨List.mem_cons_of_mem _ h1, h2, h3⟩
    · rw [show Nat.beq j i = false from q_bF hj] at h
      by_cases hb : j + 1 = i ∧ q_big w = true
      · rw [show Nat.beq (j + 1) i = true from q_bT hb.1, hb.2] at h
        obtain ⟨h1, h2, h3⟩ := ih h
        exact ⟨List.mem_cons_of_mem _ h1, h2, h3⟩
      · have e : cond (Nat.beq (j + 1) i) (q_big w) false = false := by
          by_cases h1 : j + 1 = i
          · rw [show Nat.beq (j + 1) i = true from q_bT h1]
            cases hw : q_big w with
            | true => exact absurd ⟨h1, hw⟩ hb
            | false => rfl
          · rw [show Nat.beq (j + 1) i = false from q_bF h1]; rfl
        rw [e] at h
        rcases List.mem_cons.mp h with h1 | h1
        · rw [h1]; exact ⟨List.mem_cons_self, hj, hb⟩
        · obtain ⟨h2, h3, h4⟩ := ih h1
          exact ⟨List.mem_cons_of_mem _ h2, h3, h4⟩
theorem q_big_cat (g : QG) (v : QV) : (q_c g v).category = if q_big v = true then 2 else 1 := by
  rcases v with x | x | ⟨k, p⟩
  · rfl
  · rfl
  · cases k <;> rfl
theorem q_cat1 {g : QG} {v : QV} (h : q_big v = false) : (q_c g v).category = 1 := by rw [q_big_cat, h]; rfl
theorem q_has_sub {ls : Array Slot} {n : Nat} {l1 l2 : List (Nat × Value)} (h : lv_has ls n l1) (hs : ∀ q ∈ l2, q ∈ l1) : lv_has ls n l2 := ⟨h.1, h.2.1, fun q hq => h.2.2 q (hs q hq)⟩
theorem q_lk_at {g : QG} {ls : Array Slot} {n : Nat} {lv : QL} {i : Nat} {v : QV} (h : lv_has ls n (lv.map (q_cl g))) (hk : q_lk lv i = some v) : ls[i]? = some (.val (q_c g v)) := h.2.2 (i, q_c g v) (List.mem_map.mpr ⟨(i, v), q_lk_mem hk, rfl⟩)
theorem q_st_has {g : QG} {ls : Array Slot} {n i : Nat} {lv : QL} {v : QV} (h : lv_has ls n ((i, q_c g v) :: (lv.map (q_cl g)).filter (fun q => !(q.1 == i) && !(q.1 + 1 == i && q.2.category == 2)))) : lv_has ls n ((q_st i v lv).map (q_cl g)) := by
  refine q_has_sub h fun q hq => ?_
  obtain ⟨⟨j, w⟩, hr, rfl⟩ := List.mem_map.mp hq
  rcases q_in_mem hr with h1 | h1
  · cases h1; exact List.mem_cons_self
  · obtain ⟨h2, h3, h4⟩ := q_rm_mem h1
    refine List.mem_cons_of_mem _ (List.mem_filter.mpr ⟨List.mem_map.mpr ⟨_, h2, rfl⟩, ?_⟩)
    simp only [q_cl, q_big_cat]
    have h5 : (j == i) = false := by simpa using h3
    rw [h5]
    by_cases hb : q_big w = true
    · have h6 : (j + 1 == i) = false := by simpa [hb] using h4
      simp [h6]
    · simp [hb]
theorem q_st2_has {g : QG} {ls : Array Slot} {n i : Nat} {lv : QL} {v : QV} (h : lv_has ls n ((i, q_c g v) :: (lv.map (q_cl g)).filter (fun q => !(q.1 == i) && (!(q.1 == i + 1) && !(q.1 + 1 == i && q.2.category == 2))))) : lv_has ls n ((q_st2 i v lv).map (q_cl g)) := by
  refine q_has_sub h fun q hq => ?_
  obtain ⟨⟨j, w⟩, hr, rfl⟩ := List.mem_map.mp hq
  rcases q_in_mem hr with h1 | h1
  · cases h1; exact List.mem_cons_self
  · obtain ⟨h1a, h3a, h4a⟩ := q_rm_mem h1
    obtain ⟨h2, h3, h4⟩ := q_rm_mem h1a
    refine List.mem_cons_of_mem _ (List.mem_filter.mpr ⟨List.mem_map.mpr ⟨_, h2, rfl⟩, ?_⟩)
    simp only [q_cl, q_big_cat]
    have h5 : (j == i) = false := by simpa using h3
    have h5a : (j == i + 1) = false := by simpa using h3a
    rw [h5, h5a]
    by_cases hb : q_big w = true
    · have h6 : (j + 1 == i) = false := by simpa [hb] using h4
      simp [h6]
    · simp [hb]
theorem q_okL_in {i : Nat} {v : QV} {ls : QL} (h1 : q_vd v) (h2 : q_okL ls) : q_okL (q_st i v ls) := fun q hq => (q_in_mem hq).elim (fun e => by rw [e]; exact h1) (fun h => h2 q (q_rm_mem h).1)
theorem q_okL_in2 {i : Nat} {v : QV} {ls : QL} (h1 : q_vd v) (h2 : q_okL ls) : q_okL (q_st2 i v ls) := fun q hq => (q_in_mem hq).elim (fun e => by rw [e]; exact h1) (fun h => h2 q (q_rm_mem (q_rm_mem h).1).1)
theorem q_la_map (g : QG) : ∀ (i : Nat) (vs : List QV), (q_la i vs).map (q_cl g) = lv_args i (vs.map (q_c g)) := by
  intro i vs
  induction vs generalizing i with
  | nil => rfl
  | cons v vs ih =>
    show (i, q_c g v) :: (q_la _ vs).map (q_cl g) = (i, q_c g v) :: lv_args _ (vs.map (q_c g))
    rw [ih, q_big_cat]
    cases q_big v <;> rfl
theorem q_la_ok : ∀ (i : Nat) (vs : List QV), q_okS vs → q_okL (q_la i vs) := by
  intro i vs
  induction vs generalizing i with
  | nil => intro _ q hq; cases hq
  | cons v vs ih =>
    intro h q hq
    rcases List.mem_cons.mp hq with h1 | h1
    · rw [h1]; exact q_okS_hd h
    · exact ih _ (q_okS_tl h) q h1

-- the tables' words that every method may be told
def q_tw : List Cond := lw_tbl.filter goodWord
theorem q_tw_of {w : Cond} (h : w ∈ lw_tbl) (hg : goodWord w = true) : w ∈ q_tw := List.mem_filter.mpr ⟨h, hg⟩
theorem q_tw_lw {w : Cond} (h : w ∈ q_tw) : w ∈ lw_tbl := (List.mem_filter.mp h).1
theorem q_tw_good {w : Cond} (h : w ∈ q_tw) : (w.onTables && w.keeps) = true ∨ ∃ ty, w = .arrayClass ty := good_of_word (List.mem_filter.mp h).2
theorem q_w1 {i : Nat} {w : Cond} (h : tables_1_1[i]? = some w) (hg : goodWord w = true) : w ∈ q_tw := q_tw_of (List.mem_append_right _ (List.mem_append_left _ (List.mem_of_getElem? h))) hg
theorem q_w2 {i : Nat} {w : Cond} (h : tables_1_2[i]? = some w) (hg : goodWord w = true) : w ∈ q_tw := q_tw_of (List.mem_append_right _ (List.mem_append_right _ (List.mem_append_left _ (List.mem_of_getElem? h)))) hg
theorem q_w3 {i : Nat} {w : Cond} (h : tables_1_3[i]? = some w) (hg : goodWord w = true) : w ∈ q_tw := q_tw_of (List.mem_append_right _ (List.mem_append_right _ (List.mem_append_right _ (List.mem_append_left _ (List.mem_of_getElem? h))))) hg
theorem q_w4 {i : Nat} {w : Cond} (h : tables_1_4[i]? = some w) (hg : goodWord w = true) : w ∈ q_tw := q_tw_of (List.mem_append_right _ (List.mem_append_right _ (List.mem_append_right _ (List.mem_append_right _ (List.mem_append_left _ (List.mem_of_getElem? h)))))) hg
theorem q_w5 {i : Nat} {w : Cond} (h : tables_1_5[i]? = some w) (hg : goodWord w = true) : w ∈ q_tw := q_tw_of (List.mem_append_right _ (List.mem_append_right _ (List.mem_append_right _ (List.mem_append_right _ (List.mem_append_right _ (List.mem_of_getElem? h)))))) hg
theorem q_w0 {i : Nat} {w : Cond} (h : (k2_sels lw_privs)[i]? = some w) (hg : goodWord w = true) : w ∈ q_tw := q_tw_of (List.mem_append_left _ (List.mem_of_getElem? h)) hg
def q_nests : List Cond := [Cond.methodLinkNest RX6 9 yX5_init "StoneApologies", Cond.methodLinkNest RX6 18 yX0_init "StoneApologies", Cond.methodLinkNest RX5 22 yX6_put "StoneApologies", Cond.methodLinkNest RX0 49 yX6_fill "StoneApologies", Cond.methodLinkNest RX5 46 yX6_at "StoneApologies", Cond.methodLinkNest RX0 53 yX6_put "StoneApologies", Cond.methodLinkNest RX0 57 yX6_isUse "StoneApologies", Cond.methodLinkNest RX0 65 yX6_at "StoneApologies", Cond.methodLinkNest RX3 38 yX6_fill "StoneApologies", Cond.methodLinkNest RX3 47 yX6_copy "StoneApologies", Cond.methodLinkNest RX3 54 yX6_at "StoneApologies", Cond.methodLinkNest RX2 25 yX6_pick "StoneApologies", Cond.methodLinkNest RX3 89 yX6_put "StoneApologies", Cond.methodLinkNest RX3 125 yX6_saying "StoneApologies", Cond.methodLinkNest RX4 49 yX6_at "StoneApologies", Cond.methodLinkNest RX4 56 yX6_saying "StoneApologies", Cond.methodLinkNest RX4 60 yX6_put "StoneApologies", Cond.methodLinkNest RX1 27 yX6_pick "StoneApologies", Cond.methodLinkNest RX1 50 yX6_copy "StoneApologies", Cond.methodLinkNest RX1 67 yX6_put "StoneApologies"]
theorem q_nests_on : ∀ w ∈ q_nests, w.onTables = true := by
  intro w hw
  simp only [q_nests, List.mem_cons, List.not_mem_nil, or_false] at hw
  rcases hw with rfl | rfl | rfl | rfl | rfl | rfl | rfl | rfl | rfl | rfl | rfl | rfl | rfl | rfl | rfl | rfl | rfl | rfl | rfl | rfl <;> rfl
theorem q_nests_warm {s U : State} (hW : s.WarmedH U.vm) : ∀ w ∈ q_nests, va_Nw w s → va_Nw w U := by
  intro w hw
  simp only [q_nests, List.mem_cons, List.not_mem_nil, or_false] at hw
  rcases hw with rfl | rfl | rfl | rfl | rfl | rfl | rfl | rfl | rfl | rfl | rfl | rfl | rfl | rfl | rfl | rfl | rfl | rfl | rfl | rfl <;> exact fun h => va_Nw.warmM hW h
def q_infl : List (MethodName × (ByteArray × (Nat × Option FieldType))) := [(yX0_clear, (cX0_clear, (1, none))),
  (yX0_isWhole, (cX0_isWhole, (1, (some .boolean)))),
  (yX0_addBlock, (cX0_addBlock, (3, (some .boolean)))),
  (yX0_addWord, (cX0_addWord, (2, (some .boolean)))),
  (yX0_addSpeaker, (cX0_addSpeaker, (3, (some .boolean)))),
  (yX0_setFrost, (cX0_setFrost, (2, (some .boolean)))),
  (yX0_addVow, (cX0_addVow, (4, (some .boolean)))),
  (yX0_reckon, (cX0_reckon, (5, none))),
  (yX0_plainWorth, (cX0_plainWorth, (4, (some .int)))),
  (yX0_spokenWorth, (cX0_spokenWorth, (5, (some .int)))),
  (yX0_coldFor, (cX0_coldFor, (2, (some .int)))),
  (yX0_vowPlace, (cX0_vowPlace, (2, (some .int)))),
  (yX0_wordPlace, (cX0_wordPlace, (2, (some .int)))),
  (yX0_sayingPlace, (cX0_sayingPlace, (3, (some .int)))),
  (yX1_seek, (cX1_seek, (3, none))),
  (yX1_extend, (cX1_extend, (8, none))),
  (yX2_clear, (cX2_clear, (1, none))),
  (yX2_push, (cX2_push, (3, none))),
  (yX2_pop, (cX2_pop, (4, (some .boolean)))),
  (yX3_begin, (cX3_begin, (1, none))),
  (yX3_copyFrom, (cX3_copyFrom, (2, none))),
  (yX3_isIn, (cX3_isIn, (3, (some .boolean)))),
  (yX3_tally, (cX3_tally, (4, (some .int)))),
  (yX3_hoursLeft, (cX3_hoursLeft, (3, (some .int)))),
  (yX3_lackOf, (cX3_lackOf, (2, (some .int)))),
  (yX3_timesHeard, (cX3_timesHeard, (3, (some .int)))),
  (yX3_worthOf, (cX3_worthOf, (5, (some .int)))),
  (yX3_vowOf, (cX3_vowOf, (3, (some .int)))),
  (yX3_canSay, (cX3_canSay, (3, (some .boolean)))),
  (yX3_speak, (cX3_speak, (6, none))),
  (yX3_hear, (cX3_hear, (5, none))),
  (yX3_hearsThrough, (cX3_hearsThrough, (4, (some .boolean)))),
  (yX3_soften, (cX3_soften, (4, none))),
  (yX3_vow, (cX3_vow, (4, none))),
  (yX3_carryOff, (cX3_carryOff, (3, none))),
  (yX3_wouldCrack, (cX3_wouldCrack, (4, (some .boolean)))),
  (yX3_belies, (cX3_belies, (5, (some .boolean)))),
  (yX3_night, (cX3_night, (2, none))),
  (yX3_dearest, (cX3_dearest, (7, (some .int)))),
  (yX3_askAll, (cX3_askAll, (4, none))),
  (yX3_askOne, (cX3_askOne, (5, none))),
  (yX3_dearestWord, (cX3_dearestWord, (7, (some .int)))),
  (yX3_mildest, (cX3_mildest, (10, (some .int)))),
  (yX3_harmOf, (cX3_harmOf, (6, (some .int)))),
  (yX3_explains, (cX3_explains, (3, (some .boolean)))),
  (yX3_explainsOne, (cX3_explainsOne, (4, (some .boolean)))),
  (yX3_softerBy, (cX3_softerBy, (8, (some .int)))),
  (yX4_shortest, (cX4_shortest, (3, (some .int)))),
  (yX4_extend, (cX4_extend, (11, (some .boolean)))),
  (yX4_shift, (cX4_shift, (6, none))),
  (yX5_append, (cX5_append, (2, none))),
  (yX5_readInto, (cX5_readInto, (4, (some .int)))),
  (yX5_readItem, (cX5_readItem, (6, (some .boolean)))),
  (yX5_readNumbers, (cX5_readNumbers, (4, (some .int)))),
  (yX5_readNumber, (cX5_readNumber, (3, (some .int)))),
  (yX5_letterAt, (cX5_letterAt, (2, (some .int)))),
  (yX6_write, (cX6_write, (2, (some .int)))),
  (yX6_wipe, (cX6_wipe, (2, (some .int)))),
  (yX6_fault, (cX6_fault, (1, (some .int)))),
  (yX6_lay, (cX6_lay, (1, (some .int)))),
  (yX6_block, (cX6_block, (3, (some .int)))),
  (yX6_word, (cX6_word, (2, (some .int)))),
  (yX6_speaker, (cX6_speaker, (3, (some .int)))),
  (yX6_heard, (cX6_heard, (3, (some .int)))),
  (yX6_promised, (cX6_promised, (3, (some .int)))),
  (yX6_worth, (cX6_worth, (4, (some .int)))),
  (yX6_say, (cX6_say, (4, (some .int)))),
  (yX6_promise, (cX6_promise, (5, (some .int)))),
  (yX6_take, (cX6_take, (3, (some .int)))),
  (yX6_pass, (cX6_pass, (3, (some .int)))),
  (yX6_undo, (cX6_undo, (1, (some .int)))),
  (yX6_least, (cX6_least, (4, (some .int)))),
  (yX6_best, (cX6_best, (2, (some .int)))),
  (yX6_order, (cX6_order, (2, (some .int)))),
  (yX6_days, (cX6_days, (4, (some .int)))),
  (yX6_frost, (cX6_frost, (4, (some .int)))),
  (yX6_uses, (cX6_uses, (4, (some .int)))),
  (yX6_harm, (cX6_harm, (2, (some .int)))),
  (yX6_liars, (cX6_liars, (4, (some .int)))),
  (yX6_said, (cX6_said, (8, (some .int)))),
  (yX6_deaf, (cX6_deaf, (10, (some .int)))),
  (yX6_year, (cX6_year, (5, (some .int)))),
  (yX6_keep, (cX6_keep, (1, (some .int)))),
  (yX6_back, (cX6_back, (1, (some .int)))),
  (yX6_count, (cX6_count, (2, (some .int)))),
  (yX6_layOut, (cX6_layOut, (1, none))),
  (yX6_isBlock, (cX6_isBlock, (2, (some .boolean)))),
  (yX6_isWord, (cX6_isWord, (2, (some .boolean)))),
  (yX6_isSpeaker, (cX6_isSpeaker, (2, (some .boolean)))),
  (yX6_isSaying, (cX6_isSaying, (4, (some .boolean)))),
  (yX6_isUse, (cX6_isUse, (1, (some .boolean)))),
  (yX6_isPart, (cX6_isPart, (1, (some .boolean)))),
  (yX6_saying, (cX6_saying, (2, (some .int)))),
  (yX6_weight, (cX6_weight, (5, (some .int)))),
  (yX6_commonMeasure, (cX6_commonMeasure, (4, (some .int)))),
  (yX6_drawOf, (cX6_drawOf, (4, (some .int)))),
  (yX6_live, (cX6_live, (6, none))),
  (yX6_at, (cX6_at, (2, (some .int)))),
  (yX6_put, (cX6_put, (3, none))),
  (yX6_fill, (cX6_fill, (3, none))),
  (yX6_copy, (cX6_copy, (3, none))),
  (yX6_pick, (cX6_pick, (2, (some (.object "StoneApologies$Quarry"))))),
  (yX7_in, (cX7_in, (6, (some .boolean)))),
  (yX7_has, (cX7_has, (2, (some .boolean)))),
  (yX7_ones, (cX7_ones, (3, (some .int)))),
  (yX7_copy, (cX7_copy, (4, none))),
  (yX7_isBlock, (cX7_isBlock, (2, (some .boolean)))),
  (yX7_isWord, (cX7_isWord, (2, (some .boolean)))),
  (yX7_isSpeaker, (cX7_isSpeaker, (2, (some .boolean)))),
  (yX7_starts, (cX7_starts, (2, none))),
  (yX7_addsBlock, (cX7_addsBlock, (3, none))),
  (yX7_addsWord, (cX7_addsWord, (2, none))),
  (yX7_addsSpeaker, (cX7_addsSpeaker, (3, none))),
  (yX7_begins, (cX7_begins, (2, none))),
  (yX7_write, (cX7_write, (2, (some .int)))),
  (yX7_wipe, (cX7_wipe, (2, (some .int)))),
  (yX7_letterAt, (cX7_letterAt, (2, (some .int)))),
  (yX7_takesNumber, (cX7_takesNumber, (5, (some .boolean)))),
  (yX7_takesBlock, (cX7_takesBlock, (2, (some .boolean)))),
  (yX7_takesWord, (cX7_takesWord, (1, (some .boolean)))),
  (yX7_takesSpeaker, (cX7_takesSpeaker, (2, (some .boolean)))),
  (yX7_takesFrost, (cX7_takesFrost, (1, (some .boolean)))),
  (yX7_takesPromise, (cX7_takesPromise, (3, (some .boolean)))),
  (yX7_takesItem, (cX7_takesItem, (2, (some .boolean)))),
  (yX7_faultOf, (cX7_faultOf, (2, (some .int)))),
  (yX7_fault, (cX7_fault, (1, (some .int)))),
  (yX7_lay, (cX7_lay, (1, (some .int)))),
  (yX7_block, (cX7_block, (3, (some .int)))),
  (yX7_word, (cX7_word, (2, (some .int)))),
  (yX7_speaker, (cX7_speaker, (3, (some .int)))),
  (yX7_heard, (cX7_heard, (3, (some .int)))),
  (yX7_promised, (cX7_promised, (3, (some .int)))),
  (yX7_byKind, (cX7_byKind, (3, (some .int)))),
  (yX7_less, (cX7_less, (2, (some .int)))),
  (yX7_heardOf, (cX7_heardOf, (4, (some .int)))),
  (yX7_spoken, (cX7_spoken, (5, (some .int)))),
  (yX7_worthOf, (cX7_worthOf, (5, (some .int)))),
  (yX7_worth, (cX7_worth, (4, (some .int)))),
  (yX7_inBed, (cX7_inBed, (3, (some .boolean)))),
  (yX7_hears, (cX7_hears, (5, (some .boolean)))),
  (yX7_comes, (cX7_comes, (3, none))),
  (yX7_says, (cX7_says, (6, none))),
  (yX7_passes, (cX7_passes, (3, none))),
  (yX7_canSay, (cX7_canSay, (4, (some .boolean)))),
  (yX7_isElse, (cX7_isElse, (7, (some .boolean)))),
  (yX7_takesFor, (cX7_takesFor, (4, none))),
  (yX7_minds, (cX7_minds, (2, none))),
  (yX7_say, (cX7_say, (4, (some .int)))),
  (yX7_promise, (cX7_promise, (5, (some .int)))),
  (yX7_take, (cX7_take, (3, (some .int)))),
  (yX7_pass, (cX7_pass, (3, (some .int)))),
  (yX7_undo, (cX7_undo, (1, (some .int)))),
  (yX7_tries, (cX7_tries, (1, none))),
  (yX7_bringsOut, (cX7_bringsOut, (7, (some .boolean)))),
  (yX7_least, (cX7_least, (4, (some .int)))),
  (yX7_bestOf, (cX7_bestOf, (8, (some .int)))),
  (yX7_best, (cX7_best, (2, (some .int)))),
  (yX7_asks, (cX7_asks, (4, none))),
  (yX7_bedOf, (cX7_bedOf, (3, (some .int)))),
  (yX7_bestOrder, (cX7_bestOrder, (9, (some .int)))),
  (yX7_order, (cX7_order, (3, (some .int)))),
  (yX7_bestWord, (cX7_bestWord, (7, (some .int)))),
  (yX7_days, (cX7_days, (5, (some .int)))),
  (yX7_frost, (cX7_frost, (3, (some .int)))),
  (yX7_uses, (cX7_uses, (4, (some .int)))),
  (yX7_harmOf, (cX7_harmOf, (5, (some .int)))),
  (yX7_harm, (cX7_harm, (10, (some .int)))),
  (yX7_lies, (cX7_lies, (6, (some .boolean)))),
  (yX7_liars, (cX7_liars, (5, (some .int)))),
  (yX7_said, (cX7_said, (9, (some .int)))),
  (yX7_deaf, (cX7_deaf, (13, (some .int)))),
  (yX7_manyHow, (cX7_manyHow, (5, (some .int)))),
  (yX7_doesBy, (cX7_doesBy, (5, none))),
  (yX7_year, (cX7_year, (7, (some .int)))),
  (yX7_keep, (cX7_keep, (1, (some .int)))),
  (yX7_back, (cX7_back, (1, (some .int)))),
  (yX7_count, (cX7_count, (2, (some .int)))),
  (yJ6_bitCount_0f7a4, (cJ6_bitCount_0f7a4, (1, (some .int))))]
def q_inf (mid : Nat) : MethodName × (ByteArray × (Nat × Option FieldType)) := q_infl.getD mid (yL_law, (cL_law, (4, some .boolean)))
def q_ws (mid : Nat) : List Cond := Cond.code (q_inf mid).1 (q_inf mid).2.1 (q_inf mid).2.2.1 (q_inf mid).2.2.2 :: q_tw
def q_okE (e : QE) : Prop := q_okS e.2.1 ∧ q_cats e.2.1 ≤ (q_inf e.1).2.2.1
def q_tys (g : QG) : List (ClassId × FieldType) := [(g.2.2.1, .int), (g.2.2.2, .object RX3)]
def q_WP (g : QG) (sx : QX) (H : QH) (U : State) : Prop := va_P g.1 vwCl (q_wd g H) U.heap ∧ va_K g.1 vwCl (q_tys g) U ∧ va_X (q_ad g 183) sx.1 sx.2 U U.heap ∧ ∀ w ∈ q_nests, va_Nw w U
def q_Pc (g : QG) (sx : QX) (e : QE) : Array Value → State → Prop := va_Pc (e.2.1.map (q_c g)) (fun U => q_WP g sx e.2.2 U)
def q_Qc (g : QG) (r : QR) : Array Value → State → Outcome → State → Prop := fun _ st oc t => (q_okR r ∧ oc = .returned (r.1.map (q_c g)) ∧ va_P g.1 vwCl (q_wd g r.2) t.heap) ∧ va_F (q_A g) st t
def q_Met (g : QG) (sx : QX) (l : Launch) (rm : Room) (e : QE) (r : QR) : Prop := Met l (q_inf e.1).1 (q_ws e.1) rm (q_Pc g sx e) (q_Qc g r) 0 0 (q_A g)
theorem q_blind (g : QG) (sx : QX) (e : QE) : FrameBlind (q_Pc g sx e) := fun a U gf mk q => by
  obtain ⟨h1, h2, h3, h4, h5⟩ := q
  exact ⟨h1, h2, va_K.moved (u := U) (U := U.calling gf mk a) (Vm.Alike.refl U.vm) h3, va_X.moved (u := U) (U := U.calling gf mk a) (Vm.Alike.refl U.vm) h4, fun w hw => va_Nw.same (u := U) (U := U.calling gf mk a) (q_nests_on w hw) rfl (h5 w hw)⟩
def q_W (g : QG) (p : Program) (l : Launch) (e : Env) (R : Room) (s : State) (m : MethodId) (args : Array Value) (below : List Frame) (meth : Method) (c : Code) (cells slots : Nat) (Q : State → Prop) (nL : Nat) (t : QS) : Prop := ∀ (Hh : Heap) (locs : List Loc) (lsA : Array Slot), lv_has lsA nL (t.2.1.map (q_cl g)) → va_P g.1 vwCl (q_wd g t.2.2.2) Hh → va_S (q_A g) s.heap Hh locs → W p l e R s m args below meth c Hh locs cells slots Q (F0 m t.1 lsA (t.2.2.1.map (q_c g)))
/-- what the machine's own returns need at the end of a run with the answer r -/
def q_Ret (g : QG) (p : Program) (l : Launch) (e : Env) (R : Room) (s : State) (m : MethodId) (args : Array Value) (below : List Frame) (meth : Method) (c : Code) (cells slots : Nat) (Q : State → Prop) (cc : ByteArray) (rt : Option FieldType) (P : QR → Prop) : Prop :=
  (∀ (pc : Nat) (x : Int32) (H : QH) (Hh : Heap) (locs : List Loc) (lsA : Array Slot) (ty : FieldType), rt = some ty → narrow ty (.int x) = .int x → decode cc pc = .ok (.ireturn, 1) → P (some (.inl x), H) → va_P g.1 vwCl (q_wd g H) Hh → va_S (q_A g) s.heap Hh locs → W p l e R s m args below meth c Hh locs cells slots Q (F0 m pc lsA [.int x])) ∧
  (∀ (pc : Nat) (H : QH) (Hh : Heap) (locs : List Loc) (lsA : Array Slot), rt = none → decode cc pc = .ok (.return_, 1) → P (none, H) → va_P g.1 vwCl (q_wd g H) Hh → va_S (q_A g) s.heap Hh locs → W p l e R s m args below meth c Hh locs cells slots Q (F0 m pc lsA [])) ∧
  (∀ (pc k q : Nat) (H : QH) (Hh : Heap) (locs : List Loc) (lsA : Array Slot) (C : String), rt = some (.object C) → decode cc pc = .ok (.areturn, 1) → q_vd (.inr (.inr (k, q))) → P (some (.inr (.inr (k, q))), H) → va_P g.1 vwCl (q_wd g H) Hh → va_S (q_A g) s.heap Hh locs → W p l e R s m args below meth c Hh locs cells slots Q (F0 m pc lsA [q_c g (.inr (.inr (k, q)))]))
def q_Cx (sx : QX) (g : QG) (p : Program) (l : Launch) (e : Env) (R : Room) (s : State) (m : MethodId) (args : Array Value) (below : List Frame) (meth : Method) (c : Code) (cells slots : Nat) (Q : State → Prop) (own : String) (cc : ByteArray) (nL : Nat) (rt : Option FieldType) (rm : Room) (P : QR → Prop) : Prop :=
  p.tables.exec = Jvm.exec ∧ c.code = cc ∧ c.maxLocals = nL ∧ s.vm.findClass own = some m.cls ∧ (∀ w ∈ q_tw, w.before args s = true) ∧ va_K g.1 vwCl (q_tys g) s ∧ va_X (q_ad g 183) sx.1 sx.2 s s.heap ∧ q_ad g 183 < s.heap.size ∧ (∀ w ∈ q_nests, va_Nw w s) ∧ q_inj g ∧ (rm.cells = 0 ∧ rm.slots = 0 ∧ rm.frames + 1 ≤ R.frames ∧ 60 + rm.locals ≤ R.locals ∧ cells ≤ R.cells ∧ slots ≤ R.slots) ∧ q_Ret g p l e R s m args below meth c cells slots Q cc rt P
/-- what an instruction's soundness says of its form -/
def q_Sp (sx : QX) (g : QG) (p : Program) (l : Launch) (e : Env) (R : Room) (s : State) (m : MethodId) (args : Array Value) (below : List Frame) (meth : Method) (c : Code) (cells slots : Nat) (Q : State → Prop) (nL : Nat) (rm : Room) (P : QR → Prop) (t : QS) : QN → Prop
  | none => True
  | some (.inl (b, u)) => b = true → q_ok u ∧ (q_W g p l e R s m args below meth c cells slots Q nL u → q_W g p l e R s m args below meth c cells slots Q nL t)
  | some (.inr (.inl (b, (u, v)))) => (b = true → q_ok u) ∧ (b = false → q_ok v) ∧ ((b = true → q_W g p l e R s m args below meth c cells slots Q nL u) → (b = false → q_W g p l e R s m args below meth c cells slots Q nL v) → q_W g p l e R s m args below meth c cells slots Q nL t)
  | some (.inr (.inr (.inl (b, r)))) => b = true → q_okR r ∧ (P r → q_W g p l e R s m args below meth c cells slots Q nL t)
  | some (.inr (.inr (.inr (.inl (b, (f, .inl k)))))) => b = true → q_okE f ∧ ∀ H', q_ok (k H') ∧ (q_Met g sx l rm f (none, H') → q_W g p l e R s m args below meth c cells slots Q nL (k H') → q_W g p l e R s m args below meth c cells slots Q nL t)
  | some (.inr (.inr (.inr (.inl (b, (f, .inr (.inl k))))))) => b = true → q_okE f ∧ ∀ x H', q_ok (k x H') ∧ (q_Met g sx l rm f (some (.inl x), H') → q_W g p l e R s m args below meth c cells slots Q nL (k x H') → q_W g p l e R s m args below meth c cells slots Q nL t)
  | some (.inr (.inr (.inr (.inl (b, (f, .inr (.inr (k0, k5)))))))) => b = true → q_okE f ∧ (∀ y H', q_ok (k0 H') ∧ (q_Met g sx l rm f (some (.inr (.inr (0, y))), H') → q_W g p l e R s m args below meth c cells slots Q nL (k0 H') → q_W g p l e R s m args below meth c cells slots Q nL t)) ∧ (∀ q H', (q_vd (.inr (.inr (5, q))) → q_ok (k5 q H')) ∧ (q_Met g sx l rm f (some (.inr (.inr (5, q))), H') → (q_vd (.inr (.inr (5, q))) → q_W g p l e R s m args below meth c cells slots Q nL (k5 q H')) → q_W g p l e R s m args below meth c cells slots Q nL t))
  | some (.inr (.inr (.inr (.inr (x, (l9, d)))))) => q_ok (q_pick x d l9) ∧ (q_W g p l e R s m args below meth c cells slots Q nL (q_pick x d l9) → q_W g p l e R s m args below meth c cells slots Q nL t)
def q_Snd (sx : QX) (own : String) (cc : ByteArray) (nL : Nat) (rt : Option FieldType) (pc : Nat) (o : QO) : Prop :=
  ∀ (g : QG) (p : Program) (l : Launch) (e : Env) (R : Room) (s : State) (m : MethodId) (args : Array Value) (below : List Frame) (meth : Method) (c : Code) (cells slots : Nat) (Q : State → Prop) (rm : Room) (P : QR → Prop), q_Cx sx g p l e R s m args below meth c cells slots Q own cc nL rt rm P → ∀ (ls : QL) (st : List QV) (H : QH), q_ok (pc, (ls, (st, H))) → q_Sp sx g p l e R s m args below meth c cells slots Q nL rm P (pc, (ls, (st, H))) (o ls st H)
end
section
def o_k (x : Int32) (nx : Nat) : QO := fun ls st H => some (.inl (true, (nx, (ls, (.inl x :: st, H)))))
def o_kl (x : Int64) (nx : Nat) : QO := fun ls st H => some (.inl (true, (nx, (ls, (.inr (.inl x) :: st, H)))))
def o_null (nx : Nat) : QO := fun ls st H => some (.inl (true, (nx, (ls, (.inr (.inr (0, 0)) :: st, H)))))
theorem s_iconst {sx : QX} {own : String} {cc : ByteArray} {nL : Nat} {rt : Option FieldType} {pc : Nat} {x : Int32} {n : Int} (hd : decode cc pc = .ok (.iconst n, 1)) (hv : Int32.ofInt n = x) : q_Snd sx own cc nL rt pc (o_k x (pc + 1)) := by
  intro g p l e R s m args below meth c cells slots Q rm P hC ls st H hok
  obtain ⟨hx, hb, hml, hown, hts, hK, hX, hbl, hN, hJ, hR, hret⟩ := hC
  exact fun _ => ⟨⟨hok.1, q_okS_cons (q_vI _) hok.2⟩, fun k Hh locs lsA hl hP hS => lv_iconst hx hb hd hv (k Hh locs lsA hl hP hS)⟩
theorem s_bipush {sx : QX} {own : String} {cc : ByteArray} {nL : Nat} {rt : Option FieldType} {pc : Nat} {x : Int32} {n : Int} (hd : decode cc pc = .ok (.bipush n, 2)) (hv : (Int8.ofInt n).toInt32 = x) : q_Snd sx own cc nL rt pc (o_k x (pc + 2)) := by
  intro g p l e R s m args below meth c cells slots Q rm P hC ls st H hok
  obtain ⟨hx, hb, hml, hown, hts, hK, hX, hbl, hN, hJ, hR, hret⟩ := hC
  exact fun _ => ⟨⟨hok.1, q_okS_cons (q_vI _) hok.2⟩, fun k Hh locs lsA hl hP hS => lv_bipush hx hb hd hv (k Hh locs lsA hl hP hS)⟩
theorem s_sipush {sx : QX} {own : String} {cc : ByteArray} {nL : Nat} {rt : Option FieldType} {pc : Nat} {x : Int32} {n : Int} (hd : decode cc pc = .ok (.sipush n, 3)) (hv : (Int16.ofInt n).toInt32 = x) : q_Snd sx own cc nL rt pc (o_k x (pc + 3)) := by
  intro g p l e R s m args below meth c cells slots Q rm P hC ls st H hok
  obtain ⟨hx, hb, hml, hown, hts, hK, hX, hbl, hN, hJ, hR, hret⟩ := hC
  exact fun _ => ⟨⟨hok.1, q_okS_cons (q_vI _) hok.2⟩, fun k Hh locs lsA hl hP hS => lv_sipush hx hb hd hv (k Hh locs lsA hl hP hS)⟩
theorem s_ldc {sx : QX} {own : String} {cc : ByteArray} {nL : Nat} {rt : Option FieldType} {pc : Nat} {x : Int32} {i : Nat} (hd : decode cc pc = .ok (.ldc i, 2)) (hw : Cond.constant own i x ∈ q_tw) : q_Snd sx own cc nL rt pc (o_k x (pc + 2)) := by
  intro g p l e R s m args below meth c cells slots Q rm P hC ls st H hok
  obtain ⟨hx, hb, hml, hown, hts, hK, hX, hbl, hN, hJ, hR, hret⟩ := hC
  exact fun _ => ⟨⟨hok.1, q_okS_cons (q_vI _) hok.2⟩, fun k Hh locs lsA hl hP hS => lv_ldc hx hb hown (hts _ hw) hd (k Hh locs lsA hl hP hS)⟩
theorem s_ldcw {sx : QX} {own : String} {cc : ByteArray} {nL : Nat} {rt : Option FieldType} {pc : Nat} {x : Int32} {i : Nat} (hd : decode cc pc = .ok (.ldc_w i, 3)) (hw : Cond.constant own i x ∈ q_tw) : q_Snd sx own cc nL rt pc (o_k x (pc + 3)) := by
  intro g p l e R s m args below meth c cells slots Q rm P hC ls st H hok
  obtain ⟨hx, hb, hml, hown, hts, hK, hX, hbl, hN, hJ, hR, hret⟩ := hC
  exact fun _ => ⟨⟨hok.1, q_okS_cons (q_vI _) hok.2⟩, fun k Hh locs lsA hl hP hS => lv_ldcw hx hb hown (hts _ hw) hd (k Hh locs lsA hl hP hS)⟩
theorem s_lconst {sx : QX} {own : String} {cc : ByteArray} {nL : Nat} {rt : Option FieldType} {pc : Nat} {x : Int64} {n : Fin 2} (hd : decode cc pc = .ok (.lconst n, 1)) (hv : Int64.ofNat (n : Nat) = x) : q_Snd sx own cc nL rt pc (o_kl x (pc + 1)) := by
  intro g p l e R s m args below meth c cells slots Q rm P hC ls st H hok
  obtain ⟨hx, hb, hml, hown, hts, hK, hX, hbl, hN, hJ, hR, hret⟩ := hC
  exact fun _ => ⟨⟨hok.1, q_okS_cons (q_vJ _) hok.2⟩, fun k Hh locs lsA hl hP hS => lv_lconst hx hb hd hv (k Hh locs lsA hl hP hS)⟩
theorem s_ldc2 {sx : QX} {own : String} {cc : ByteArray} {nL : Nat} {rt : Option FieldType} {pc : Nat} {x : Int64} {i : Nat} (hd : decode cc pc = .ok (.ldc2_w i, 3)) (hw : Cond.constantLong own i x ∈ q_tw) : q_Snd sx own cc nL rt pc (o_kl x (pc + 3)) := by
  intro g p l e R s m args below meth c cells slots Q rm P hC ls st H hok
  obtain ⟨hx, hb, hml, hown, hts, hK, hX, hbl, hN, hJ, hR, hret⟩ := hC
  exact fun _ => ⟨⟨hok.1, q_okS_cons (q_vJ _) hok.2⟩, fun k Hh locs lsA hl hP hS => lv_ldc2 hx hb hown (hts _ hw) hd (k Hh locs lsA hl hP hS)⟩
theorem s_null {sx : QX} {own : String} {cc : ByteArray} {nL : Nat} {rt : Option FieldType} {pc : Nat} (hd : decode cc pc = .ok (.aconst_null, 1)) : q_Snd sx own cc nL rt pc (o_null (pc + 1)) := by
  intro g p l e R s m args below meth c cells slots Q rm P hC ls st H hok
  obtain ⟨hx, hb, hml, hown, hts, hK, hX, hbl, hN, hJ, hR, hret⟩ := hC
  exact fun _ => ⟨⟨hok.1, q_okS_cons (trivial) hok.2⟩, fun k Hh locs lsA hl hP hS => lv_null hx hb hd (k Hh locs lsA hl hP hS)⟩
def o_il (i nx : Nat) : QO := fun ls st H => match q_lk ls i with
  | some (.inl x) => some (.inl (true, (nx, (ls, (.inl x :: st, H)))))
  | _ => none
def o_ll (i nx : Nat) : QO := fun ls st H => match q_lk ls i with
  | some (.inr (.inl x)) => some (.inl (true, (nx, (ls, (.inr (.inl x) :: st, H)))))
  | _ => none
def o_al (i nx : Nat) : QO := fun ls st H => match q_lk ls i with
  | some (.inr (.inr (k, p))) => some (.inl (true, (nx, (ls, (.inr (.inr (k, p)) :: st, H)))))
  | _ => none
theorem s_iload_n {sx : QX} {own : String} {cc : ByteArray} {nL : Nat} {rt : Option FieldType} {pc : Nat} {i : Nat} {k : Fin 4} (hd : decode cc pc = .ok (.iload_n k, 1)) (hi : (k : Nat) = i) : q_Snd sx own cc nL rt pc (o_il i (pc + 1)) := by
  intro g p l e R s m args below meth c cells slots Q rm P hC ls st H hok
  obtain ⟨hx, hb, hml, hown, hts, hK, hX, hbl, hN, hJ, hR, hret⟩ := hC
  unfold o_il
  split
  · rename_i x h
    exact fun _ => ⟨⟨hok.1, q_okS_cons (hok.1 _ (q_lk_mem h)) hok.2⟩, fun k Hh locs lsA hl hP hS => lv_iload_n hx hb hd hi (q_lk_at hl h) (k Hh locs lsA hl hP hS)⟩
  · exact trivial
theorem s_iload {sx : QX} {own : String} {cc : ByteArray} {nL : Nat} {rt : Option FieldType} {pc : Nat} {i : Nat} (hd : decode cc pc = .ok (.iload i, 2)) : q_Snd sx own cc nL rt pc (o_il i (pc + 2)) := by
  intro g p l e R s m args below meth c cells slots Q rm P hC ls st H hok
  obtain ⟨hx, hb, hml, hown, hts, hK, hX, hbl, hN, hJ, hR, hret⟩ := hC
  unfold o_il
  split
  · rename_i x h
    exact fun _ => ⟨⟨hok.1, q_okS_cons (hok.1 _ (q_lk_mem h)) hok.2⟩, fun k Hh locs lsA hl hP hS => lv_iload hx hb hd (q_lk_at hl h) (k Hh locs lsA hl hP hS)⟩
  · exact trivial
theorem s_lload_n {sx : QX} {own : String} {cc : ByteArray} {nL : Nat} {rt : Option FieldType} {pc : Nat} {i : Nat} {k : Fin 4} (hd : decode cc pc = .ok (.lload_n k, 1)) (hi : (k : Nat) = i) : q_Snd sx own cc nL rt pc (o_ll i (pc + 1)) := by
  intro g p l e R s m args below meth c cells slots Q rm P hC ls st H hok
  obtain ⟨hx, hb, hml, hown, hts, hK, hX, hbl, hN, hJ, hR, hret⟩ := hC
  unfold o_ll
  split
  · rename_i x h
    exact fun _ => ⟨⟨hok.1, q_okS_cons (hok.1 _ (q_lk_mem h)) hok.2⟩, fun k Hh locs lsA hl hP hS => lv_lload_n hx hb hd hi (q_lk_at hl h) (k Hh locs lsA hl hP hS)⟩
  · exact trivial
theorem s_lload {sx : QX} {own : String} {cc : ByteArray} {nL : Nat} {rt : Option FieldType} {pc : Nat} {i : Nat} (hd : decode cc pc = .ok (.lload i, 2)) : q_Snd sx own cc nL rt pc (o_ll i (pc + 2)) := by
  intro g p l e R s m args below meth c cells slots Q rm P hC ls st H hok
  obtain ⟨hx, hb, hml, hown, hts, hK, hX, hbl, hN, hJ, hR, hret⟩ := hC
  unfold o_ll
  split
  · rename_i x h
    exact fun _ => ⟨⟨hok.1, q_okS_cons (hok.1 _ (q_lk_mem h)) hok.2⟩, fun k Hh locs lsA hl hP hS => lv_lload hx hb hd (q_lk_at hl h) (k Hh locs lsA hl hP hS)⟩
  · exact trivial
theorem s_aload_n {sx : QX} {own : String} {cc : ByteArray} {nL : Nat} {rt : Option FieldType} {pc : Nat} {i : Nat} {k : Fin 4} (hd : decode cc pc = .ok (.aload_n k, 1)) (hi : (k : Nat) = i) : q_Snd sx own cc nL rt pc (o_al i (pc + 1)) := by
  intro g p l e R s m args below meth c cells slots Q rm P hC ls st H hok
  obtain ⟨hx, hb, hml, hown, hts, hK, hX, hbl, hN, hJ, hR, hret⟩ := hC
  unfold o_al
  split
  · rename_i k p h
    refine fun _ => ⟨⟨hok.1, q_okS_cons (hok.1 _ (q_lk_mem h)) hok.2⟩, fun kk Hh locs lsA hl hP hS => ?_⟩
    cases k with
    | zero => exact lv_aload_nN hx hb hd hi (q_lk_at hl h) (kk Hh locs lsA hl hP hS)
    | succ k => exact lv_aload_n hx hb hd hi (q_lk_at hl h) (kk Hh locs lsA hl hP hS)
  · exact trivial
theorem s_aload {sx : QX} {own : String} {cc : ByteArray} {nL : Nat} {rt : Option FieldType} {pc : Nat} {i : Nat} (hd : decode cc pc = .ok (.aload i, 2)) : q_Snd sx own cc nL rt pc (o_al i (pc + 2)) := by
  intro g p l e R s m args below meth c cells slots Q rm P hC ls st H hok
  obtain ⟨hx, hb, hml, hown, hts, hK, hX, hbl, hN, hJ, hR, hret⟩ := hC
  unfold o_al
  split
  · rename_i k p h
    refine fun _ => ⟨⟨hok.1, q_okS_cons (hok.1 _ (q_lk_mem h)) hok.2⟩, fun kk Hh locs lsA hl hP hS => ?_⟩
    cases k with
    | zero => exact lv_aloadN hx hb hd (q_lk_at hl h) (kk Hh locs lsA hl hP hS)
    | succ k => exact lv_aload hx hb hd (q_lk_at hl h) (kk Hh locs lsA hl hP hS)
  · exact trivial
def o_is (i nx : Nat) : QO := fun ls st H => match st with
  | .inl x :: st => some (.inl (true, (nx, (q_st i (.inl x) ls, (st, H)))))
  | _ => none
def o_as (i nx : Nat) : QO := fun ls st H => match st with
  | .inr (.inr (k, p)) :: st => some (.inl (true, (nx, (q_st i (.inr (.inr (k, p))) ls, (st, H)))))
  | _ => none
def o_ls (i nx : Nat) : QO := fun ls st H => match st with
  | .inr (.inl x) :: st => some (.inl (true, (nx, (q_st2 i (.inr (.inl x)) ls, (st, H)))))
  | _ => none
def o_inc (i : Nat) (n : Int32) (nx : Nat) : QO := fun ls st H => match q_lk ls i with
  | some (.inl x) => some (.inl (true, (nx, (q_st i (.inl (x + n)) ls, (st, H)))))
  | _ => none
theorem s_istore_n {sx : QX} {own : String} {cc : ByteArray} {nL : Nat} {rt : Option FieldType} {pc : Nat} {i : Nat} {k : Fin 4} (hd : decode cc pc = .ok (.istore_n k, 1)) (hi : (k : Nat) = i) (hn : i < nL) : q_Snd sx own cc nL rt pc (o_is i (pc + 1)) := by
  intro g p l e R s m args below meth c cells slots Q rm P hC ls st H hok
  obtain ⟨hx, hb, hml, hown, hts, hK, hX, hbl, hN, hJ, hR, hret⟩ := hC
  unfold o_is
  split
  · rename_i x st
    exact fun _ => ⟨⟨q_okL_in (q_okS_hd hok.2) hok.1, q_okS_tl hok.2⟩, fun k Hh locs lsA hl hP hS => lv_istore_n hx hb hd hi hl hn rfl (fun ls' hl' => k Hh locs ls' (q_st_has hl') hP hS)⟩
  · exact trivial
theorem s_istore {sx : QX} {own : String} {cc : ByteArray} {nL : Nat} {rt : Option FieldType} {pc : Nat} {i : Nat} (hd : decode cc pc = .ok (.istore i, 2)) (hn : i < nL) : q_Snd sx own cc nL rt pc (o_is i (pc + 2)) := by
  intro g p l e R s m args below meth c cells slots Q rm P hC ls st H hok
  obtain ⟨hx, hb, hml, hown, hts, hK, hX, hbl, hN, hJ, hR, hret⟩ := hC
  unfold o_is
  split
  · rename_i x st
    exact fun _ => ⟨⟨q_okL_in (q_okS_hd hok.2) hok.1, q_okS_tl hok.2⟩, fun k Hh locs lsA hl hP hS => lv_istore hx hb hd hl hn rfl (fun ls' hl' => k Hh locs ls' (q_st_has hl') hP hS)⟩
  · exact trivial
theorem s_lstore_n {sx : QX} {own : String} {cc : ByteArray} {nL : Nat} {rt : Option FieldType} {pc : Nat} {i : Nat} {k : Fin 4} (hd : decode cc pc = .ok (.lstore_n k, 1)) (hi : (k : Nat) = i) (hn : i + 1 < nL) : q_Snd sx own cc nL rt pc (o_ls i (pc + 1)) := by
  intro g p l e R s m args below meth c cells slots Q rm P hC ls st H hok
  obtain ⟨hx, hb, hml, hown, hts, hK, hX, hbl, hN, hJ, hR, hret⟩ := hC
  unfold o_ls
  split
  · rename_i x st
    exact fun _ => ⟨⟨q_okL_in2 (q_okS_hd hok.2) hok.1, q_okS_tl hok.2⟩, fun k Hh locs lsA hl hP hS => lv_lstore_n hx hb hd hi hl hn rfl (fun ls' hl' => k Hh locs ls' (q_st2_has hl') hP hS)⟩
  · exact trivial
theorem s_lstore {sx : QX} {own : String} {cc : ByteArray} {nL : Nat} {rt : Option FieldType} {pc : Nat} {i : Nat} (hd : decode cc pc = .ok (.lstore i, 2)) (hn : i + 1 < nL) : q_Snd sx own cc nL rt pc (o_ls i (pc + 2)) := by
  intro g p l e R s m args below meth c cells slots Q rm P hC ls st H hok
  obtain ⟨hx, hb, hml, hown, hts, hK, hX, hbl, hN, hJ, hR, hret⟩ := hC
  unfold o_ls
  split
  · rename_i x st
    exact fun _ => ⟨⟨q_okL_in2 (q_okS_hd hok.2) hok.1, q_okS_tl hok.2⟩, fun k Hh locs lsA hl hP hS => lv_lstore hx hb hd hl hn rfl (fun ls' hl' => k Hh locs ls' (q_st2_has hl') hP hS)⟩
  · exact trivial
theorem s_astore_n {sx : QX} {own : String} {cc : ByteArray} {nL : Nat} {rt : Option FieldType} {pc : Nat} {i : Nat} {k : Fin 4} (hd : decode cc pc = .ok (.astore_n k, 1)) (hi : (k : Nat) = i) (hn : i < nL) : q_Snd sx own cc nL rt pc (o_as i (pc + 1)) := by
  intro g p l e R s m args below meth c cells slots Q rm P hC ls st H hok
  obtain ⟨hx, hb, hml, hown, hts, hK, hX, hbl, hN, hJ, hR, hret⟩ := hC
  unfold o_as
  split
  · rename_i k p st
    refine fun _ => ⟨⟨q_okL_in (q_okS_hd hok.2) hok.1, q_okS_tl hok.2⟩, fun kk Hh locs lsA hl hP hS => ?_⟩
    cases k with
    | zero => exact lv_astore_nN hx hb hd hi hl hn rfl (fun ls' hl' => kk Hh locs ls' (q_st_has (v := .inr (.inr (0, p))) hl') hP hS)
    | succ k => exact lv_astore_n hx hb hd hi hl hn rfl (fun ls' hl' => kk Hh locs ls' (q_st_has (v := .inr (.inr (k + 1, p))) hl') hP hS)
  · exact trivial
theorem s_astore {sx : QX} {own : String} {cc : ByteArray} {nL : Nat} {rt : Option FieldType} {pc : Nat} {i : Nat} (hd : decode cc pc = .ok (.astore i, 2)) (hn : i < nL) : q_Snd sx own cc nL rt pc (o_as i (pc + 2)) := by
  intro g p l e R s m args below meth c cells slots Q rm P hC ls st H hok
  obtain ⟨hx, hb, hml, hown, hts, hK, hX, hbl, hN, hJ, hR, hret⟩ := hC
  unfold o_as
  split
  · rename_i k p st
    refine fun _ => ⟨⟨q_okL_in (q_okS_hd hok.2) hok.1, q_okS_tl hok.2⟩, fun kk Hh locs lsA hl hP hS => ?_⟩
    cases k with
    | zero => exact lv_astoreN hx hb hd hl hn rfl (fun ls' hl' => kk Hh locs ls' (q_st_has (v := .inr (.inr (0, p))) hl') hP hS)
    | succ k => exact lv_astore hx hb hd hl hn rfl (fun ls' hl' => kk Hh locs ls' (q_st_has (v := .inr (.inr (k + 1, p))) hl') hP hS)
  · exact trivial
theorem s_iinc {sx : QX} {own : String} {cc : ByteArray} {nL : Nat} {rt : Option FieldType} {pc : Nat} {i : Nat} {n : Int} {x : Int32} (hd : decode cc pc = .ok (.iinc i n, 3)) (hv : Int32.ofInt n = x) (hn : i < nL) : q_Snd sx own cc nL rt pc (o_inc i x (pc + 3)) := by
  intro g p l e R s m args below meth c cells slots Q rm P hC ls st H hok
  obtain ⟨hx, hb, hml, hown, hts, hK, hX, hbl, hN, hJ, hR, hret⟩ := hC
  subst hv
  unfold o_inc
  split
  · rename_i x h
    refine fun _ => ⟨⟨q_okL_in (q_vI _) hok.1, hok.2⟩, fun kk Hh locs lsA hl hP hS => ?_⟩
    obtain ⟨k, hk⟩ := List.getElem?_of_mem (List.mem_map.mpr ⟨(i, .inl x), q_lk_mem h, rfl⟩ : (i, Value.int x) ∈ ls.map (q_cl g))
    exact lv_iinc hx hb hd hl hk rfl hn rfl (fun ls' hl' => kk Hh locs ls' (q_st_has (v := .inl (x + Int32.ofInt n)) hl') hP hS)
  · exact trivial
def o_b (f : Int32 → Int32 → Int32) (nx : Nat) : QO := fun ls st H => match st with
  | .inl y :: .inl x :: st => some (.inl (true, (nx, (ls, (.inl (f x y) :: st, H)))))
  | _ => none
def o_bz (f : Int32 → Int32 → Int32) (nx : Nat) : QO := fun ls st H => match st with
  | .inl y :: .inl x :: st => some (.inl (!(decide (y = 0)), (nx, (ls, (.inl (f x y) :: st, H)))))
  | _ => none
def o_u (f : Int32 → Int32) (nx : Nat) : QO := fun ls st H => match st with
  | .inl x :: st => some (.inl (true, (nx, (ls, (.inl (f x) :: st, H)))))
  | _ => none
def o_lb (f : Int64 → Int64 → Int64) (nx : Nat) : QO := fun ls st H => match st with
  | .inr (.inl y) :: .inr (.inl x) :: st => some (.inl (true, (nx, (ls, (.inr (.inl (f x y)) :: st, H)))))
  | _ => none
def o_lbz (f : Int64 → Int64 → Int64) (nx : Nat) : QO := fun ls st H => match st with
  | .inr (.inl y) :: .inr (.inl x) :: st => some (.inl (!(decide (y = 0)), (nx, (ls, (.inr (.inl (f x y)) :: st, H)))))
  | _ => none
def o_lcmp (nx : Nat) : QO := fun ls st H => match st with
  | .inr (.inl y) :: .inr (.inl x) :: st => some (.inl (true, (nx, (ls, (.inl (lg_cmp x y) :: st, H)))))
  | _ => none
def o_i2l (nx : Nat) : QO := fun ls st H => match st with
  | .inl x :: st => some (.inl (true, (nx, (ls, (.inr (.inl x.toInt64) :: st, H)))))
  | _ => none
def o_l2i (nx : Nat) : QO := fun ls st H => match st with
  | .inr (.inl x) :: st => some (.inl (true, (nx, (ls, (.inl x.toInt32 :: st, H)))))
  | _ => none
theorem s_iadd {sx : QX} {own : String} {cc : ByteArray} {nL : Nat} {rt : Option FieldType} {pc : Nat} (hd : decode cc pc = .ok (.iadd, 1)) : q_Snd sx own cc nL rt pc (o_b (fun x y => x + y) (pc + 1)) := by
  intro g p l e R s m args below meth c cells slots Q rm P hC ls st H hok
  obtain ⟨hx, hb, hml, hown, hts, hK, hX, hbl, hN, hJ, hR, hret⟩ := hC
  unfold o_b
  split
  · rename_i y x st
    exact fun _ => ⟨⟨hok.1, q_okS_cons (q_vI _) (q_okS_tl (q_okS_tl hok.2))⟩, fun k Hh locs lsA hl hP hS => lv_iadd hx hb hd (k Hh locs lsA hl hP hS)⟩
  · exact trivial
theorem s_isub {sx : QX} {own : String} {cc : ByteArray} {nL : Nat} {rt : Option FieldType} {pc : Nat} (hd : decode cc pc = .ok (.isub, 1)) : q_Snd sx own cc nL rt pc (o_b (fun x y => x - y) (pc + 1)) := by
  intro g p l e R s m args below meth c cells slots Q rm P hC ls st H hok
  obtain ⟨hx, hb, hml, hown, hts, hK, hX, hbl, hN, hJ, hR, hret⟩ := hC
  unfold o_b
  split
  · rename_i y x st
    exact fun _ => ⟨⟨hok.1, q_okS_cons (q_vI _) (q_okS_tl (q_okS_tl hok.2))⟩, fun k Hh locs lsA hl hP hS => lv_isub hx hb hd (k Hh locs lsA hl hP hS)⟩
  · exact trivial
theorem s_imul {sx : QX} {own : String} {cc : ByteArray} {nL : Nat} {rt : Option FieldType} {pc : Nat} (hd : decode cc pc = .ok (.imul, 1)) : q_Snd sx own cc nL rt pc (o_b (fun x y => x * y) (pc + 1)) := by
  intro g p l e R s m args below meth c cells slots Q rm P hC ls st H hok
  obtain ⟨hx, hb, hml, hown, hts, hK, hX, hbl, hN, hJ, hR, hret⟩ := hC
  unfold o_b
  split
  · rename_i y x st
    exact fun _ => ⟨⟨hok.1, q_okS_cons (q_vI _) (q_okS_tl (q_okS_tl hok.2))⟩, fun k Hh locs lsA hl hP hS => lv_imul hx hb hd (k Hh locs lsA hl hP hS)⟩
  · exact trivial
theorem s_iand {sx : QX} {own : String} {cc : ByteArray} {nL : Nat} {rt : Option FieldType} {pc : Nat} (hd : decode cc pc = .ok (.iand, 1)) : q_Snd sx own cc nL rt pc (o_b (fun x y => x &&& y) (pc + 1)) := by
  intro g p l e R s m args below meth c cells slots Q rm P hC ls st H hok
  obtain ⟨hx, hb, hml, hown, hts, hK, hX, hbl, hN, hJ, hR, hret⟩ := hC
  unfold o_b
  split
  · rename_i y x st
    exact fun _ => ⟨⟨hok.1, q_okS_cons (q_vI _) (q_okS_tl (q_okS_tl hok.2))⟩, fun k Hh locs lsA hl hP hS => lv_iand hx hb hd (k Hh locs lsA hl hP hS)⟩
  · exact trivial
theorem s_ior {sx : QX} {own : String} {cc : ByteArray} {nL : Nat} {rt : Option FieldType} {pc : Nat} (hd : decode cc pc = .ok (.ior, 1)) : q_Snd sx own cc nL rt pc (o_b (fun x y => x ||| y) (pc + 1)) := by
  intro g p l e R s m args below meth c cells slots Q rm P hC ls st H hok
  obtain ⟨hx, hb, hml, hown, hts, hK, hX, hbl, hN, hJ, hR, hret⟩ := hC
  unfold o_b
  split
  · rename_i y x st
    exact fun _ => ⟨⟨hok.1, q_okS_cons (q_vI _) (q_okS_tl (q_okS_tl hok.2))⟩, fun k Hh locs lsA hl hP hS => lv_ior hx hb hd (k Hh locs lsA hl hP hS)⟩
  · exact trivial
theorem s_ishl {sx : QX} {own : String} {cc : ByteArray} {nL : Nat} {rt : Option FieldType} {pc : Nat} (hd : decode cc pc = .ok (.ishl, 1)) : q_Snd sx own cc nL rt pc (o_b (fun x y => x <<< (y &&& 31)) (pc + 1)) := by
  intro g p l e R s m args below meth c cells slots Q rm P hC ls st H hok
  obtain ⟨hx, hb, hml, hown, hts, hK, hX, hbl, hN, hJ, hR, hret⟩ := hC
  unfold o_b
  split
  · rename_i y x st
    exact fun _ => ⟨⟨hok.1, q_okS_cons (q_vI _) (q_okS_tl (q_okS_tl hok.2))⟩, fun k Hh locs lsA hl hP hS => lv_ishl hx hb hd (k Hh locs lsA hl hP hS)⟩
  · exact trivial
theorem s_ishr {sx : QX} {own : String} {cc : ByteArray} {nL : Nat} {rt : Option FieldType} {pc : Nat} (hd : decode cc pc = .ok (.ishr, 1)) : q_Snd sx own cc nL rt pc (o_b (fun x y => x >>> (y &&& 31)) (pc + 1)) := by
  intro g p l e R s m args below meth c cells slots Q rm P hC ls st H hok
  obtain ⟨hx, hb, hml, hown, hts, hK, hX, hbl, hN, hJ, hR, hret⟩ := hC
  unfold o_b
  split
  · rename_i y x st
    exact fun _ => ⟨⟨hok.1, q_okS_cons (q_vI _) (q_okS_tl (q_okS_tl hok.2))⟩, fun k Hh locs lsA hl hP hS => lv_ishr hx hb hd (k Hh locs lsA hl hP hS)⟩
  · exact trivial
theorem s_iushr {sx : QX} {own : String} {cc : ByteArray} {nL : Nat} {rt : Option FieldType} {pc : Nat} (hd : decode cc pc = .ok (.iushr, 1)) : q_Snd sx own cc nL rt pc (o_b (fun x y => (x.toUInt32 >>> (y.toUInt32 &&& Int32.toUInt32 31)).toInt32) (pc + 1)) := by
  intro g p l e R s m args below meth c cells slots Q rm P hC ls st H hok
  obtain ⟨hx, hb, hml, hown, hts, hK, hX, hbl, hN, hJ, hR, hret⟩ := hC
  unfold o_b
  split
  · rename_i y x st
    exact fun _ => ⟨⟨hok.1, q_okS_cons (q_vI _) (q_okS_tl (q_okS_tl hok.2))⟩, fun k Hh locs lsA hl hP hS => lv_iushr hx hb hd rfl (k Hh locs lsA hl hP hS)⟩
  · exact trivial
theorem s_idiv {sx : QX} {own : String} {cc : ByteArray} {nL : Nat} {rt : Option FieldType} {pc : Nat} (hd : decode cc pc = .ok (.idiv, 1)) : q_Snd sx own cc nL rt pc (o_bz (fun x y => x / y) (pc + 1)) := by
  intro g p l e R s m args below meth c cells slots Q rm P hC ls st H hok
  obtain ⟨hx, hb, hml, hown, hts, hK, hX, hbl, hN, hJ, hR, hret⟩ := hC
  unfold o_bz
  split
  · rename_i y x st
    exact fun hg => ⟨⟨hok.1, q_okS_cons (q_vI _) (q_okS_tl (q_okS_tl hok.2))⟩, fun k Hh locs lsA hl hP hS => lv_idiv hx hb hd (by simpa using hg) (k Hh locs lsA hl hP hS)⟩
  · exact trivial
theorem s_irem {sx : QX} {own : String} {cc : ByteArray} {nL : Nat} {rt : Option FieldType} {pc : Nat} (hd : decode cc pc = .ok (.irem, 1)) : q_Snd sx own cc nL rt pc (o_bz (fun x y => x - x / y * y) (pc + 1)) := by
  intro g p l e R s m args below meth c cells slots Q rm P hC ls st H hok
  obtain ⟨hx, hb, hml, hown, hts, hK, hX, hbl, hN, hJ, hR, hret⟩ := hC
  unfold o_bz
  split
  · rename_i y x st
    exact fun hg => ⟨⟨hok.1, q_okS_cons (q_vI _) (q_okS_tl (q_okS_tl hok.2))⟩, fun k Hh locs lsA hl hP hS => lv_irem hx hb hd (by simpa using hg) (k Hh locs lsA hl hP hS)⟩
  · exact trivial
theorem s_ladd {sx : QX} {own : String} {cc : ByteArray} {nL : Nat} {rt : Option FieldType} {pc : Nat} (hd : decode cc pc = .ok (.ladd, 1)) : q_Snd sx own cc nL rt pc (o_lb (fun x y => x + y) (pc + 1)) := by
  intro g p l e R s m args below meth c cells slots Q rm P hC ls st H hok
  obtain ⟨hx, hb, hml, hown, hts, hK, hX, hbl, hN, hJ, hR, hret⟩ := hC
  unfold o_lb
  split
  · rename_i y x st
    exact fun _ => ⟨⟨hok.1, q_okS_cons (q_vJ _) (q_okS_tl (q_okS_tl hok.2))⟩, fun k Hh locs lsA hl hP hS => lv_ladd hx hb hd (k Hh locs lsA hl hP hS)⟩
  · exact trivial
theorem s_lsub {sx : QX} {own : String} {cc : ByteArray} {nL : Nat} {rt : Option FieldType} {pc : Nat} (hd : decode cc pc = .ok (.lsub, 1)) : q_Snd sx own cc nL rt pc (o_lb (fun x y => x - y) (pc + 1)) := by
  intro g p l e R s m args below meth c cells slots Q rm P hC ls st H hok
  obtain ⟨hx, hb, hml, hown, hts, hK, hX, hbl, hN, hJ, hR, hret⟩ := hC
  unfold o_lb
  split
  · rename_i y x st
    exact fun _ => ⟨⟨hok.1, q_okS_cons (q_vJ _) (q_okS_tl (q_okS_tl hok.2))⟩, fun k Hh locs lsA hl hP hS => lv_lsub hx hb hd (k Hh locs lsA hl hP hS)⟩
  · exact trivial
theorem s_lmul {sx : QX} {own : String} {cc : ByteArray} {nL : Nat} {rt : Option FieldType} {pc : Nat} (hd : decode cc pc = .ok (.lmul, 1)) : q_Snd sx own cc nL rt pc (o_lb (fun x y => x * y) (pc + 1)) := by
  intro g p l e R s m args below meth c cells slots Q rm P hC ls st H hok
  obtain ⟨hx, hb, hml, hown, hts, hK, hX, hbl, hN, hJ, hR, hret⟩ := hC
  unfold o_lb
  split
  · rename_i y x st
    exact fun _ => ⟨⟨hok.1, q_okS_cons (q_vJ _) (q_okS_tl (q_okS_tl hok.2))⟩, fun k Hh locs lsA hl hP hS => lv_lmul hx hb hd (k Hh locs lsA hl hP hS)⟩
  · exact trivial
theorem s_lrem {sx : QX} {own : String} {cc : ByteArray} {nL : Nat} {rt : Option FieldType} {pc : Nat} (hd : decode cc pc = .ok (.lrem, 1)) : q_Snd sx own cc nL rt pc (o_lbz (fun x y => x - x / y * y) (pc + 1)) := by
  intro g p l e R s m args below meth c cells slots Q rm P hC ls st H hok
  obtain ⟨hx, hb, hml, hown, hts, hK, hX, hbl, hN, hJ, hR, hret⟩ := hC
  unfold o_lbz
  split
  · rename_i y x st
    exact fun hg => ⟨⟨hok.1, q_okS_cons (q_vJ _) (q_okS_tl (q_okS_tl hok.2))⟩, fun k Hh locs lsA hl hP hS => lv_lrem hx hb hd (by simpa using hg) (k Hh locs lsA hl hP hS)⟩
  · exact trivial
theorem s_ineg {sx : QX} {own : String} {cc : ByteArray} {nL : Nat} {rt : Option FieldType} {pc : Nat} (hd : decode cc pc = .ok (.ineg, 1)) : q_Snd sx own cc nL rt pc (o_u (fun x => 0 - x) (pc + 1)) := by
  intro g p l e R s m args below meth c cells slots Q rm P hC ls st H hok
  obtain ⟨hx, hb, hml, hown, hts, hK, hX, hbl, hN, hJ, hR, hret⟩ := hC
  unfold o_u
  split
  · rename_i x st
    exact fun _ => ⟨⟨hok.1, q_okS_cons (q_vI _) (q_okS_tl hok.2)⟩, fun k Hh locs lsA hl hP hS => lv_ineg hx hb hd (k Hh locs lsA hl hP hS)⟩
  · exact trivial
theorem s_lcmp {sx : QX} {own : String} {cc : ByteArray} {nL : Nat} {rt : Option FieldType} {pc : Nat} (hd : decode cc pc = .ok (.lcmp, 1)) : q_Snd sx own cc nL rt pc (o_lcmp (pc + 1)) := by
  intro g p l e R s m args below meth c cells slots Q rm P hC ls st H hok
  obtain ⟨hx, hb, hml, hown, hts, hK, hX, hbl, hN, hJ, hR, hret⟩ := hC
  unfold o_lcmp
  split
  · rename_i y x st
    exact fun _ => ⟨⟨hok.1, q_okS_cons (q_vI _) (q_okS_tl (q_okS_tl hok.2))⟩, fun k Hh locs lsA hl hP hS => W.lcmp hx hb hd (k Hh locs lsA hl hP hS)⟩
  · exact trivial
theorem s_i2l {sx : QX} {own : String} {cc : ByteArray} {nL : Nat} {rt : Option FieldType} {pc : Nat} (hd : decode cc pc = .ok (.i2l, 1)) : q_Snd sx own cc nL rt pc (o_i2l (pc + 1)) := by
  intro g p l e R s m args below meth c cells slots Q rm P hC ls st H hok
  obtain ⟨hx, hb, hml, hown, hts, hK, hX, hbl, hN, hJ, hR, hret⟩ := hC
  unfold o_i2l
  split
  · rename_i x st
    exact fun _ => ⟨⟨hok.1, q_okS_cons (q_vJ _) (q_okS_tl hok.2)⟩, fun k Hh locs lsA hl hP hS => lv_i2l hx hb hd rfl (k Hh locs lsA hl hP hS)⟩
  · exact trivial
theorem s_l2i {sx : QX} {own : String} {cc : ByteArray} {nL : Nat} {rt : Option FieldType} {pc : Nat} (hd : decode cc pc = .ok (.l2i, 1)) : q_Snd sx own cc nL rt pc (o_l2i (pc + 1)) := by
  intro g p l e R s m args below meth c cells slots Q rm P hC ls st H hok
  obtain ⟨hx, hb, hml, hown, hts, hK, hX, hbl, hN, hJ, hR, hret⟩ := hC
  unfold o_l2i
  split
  · rename_i x st
    exact fun _ => ⟨⟨hok.1, q_okS_cons (q_vI _) (q_okS_tl hok.2)⟩, fun k Hh locs lsA hl hP hS => lv_l2i hx hb hd rfl (k Hh locs lsA hl hP hS)⟩
  · exact trivial
def o_dup (nx : Nat) : QO := fun ls st H => match st with
  | v :: st => some (.inl (!(q_big v), (nx, (ls, (v :: v :: st, H)))))
  | _ => none
def o_pop (nx : Nat) : QO := fun ls st H => match st with
  | v :: st => some (.inl (!(q_big v), (nx, (ls, (st, H)))))
  | _ => none
def o_dup2 (nx : Nat) : QO := fun ls st H => match st with
  | v :: w :: st => some (.inl (cond (q_big v) false (!(q_big w)), (nx, (ls, (v :: w :: v :: w :: st, H)))))
  | _ => none
theorem s_dup {sx : QX} {own : String} {cc : ByteArray} {nL : Nat} {rt : Option FieldType} {pc : Nat} (hd : decode cc pc = .ok (.dup, 1)) : q_Snd sx own cc nL rt pc (o_dup (pc + 1)) := by
  intro g p l e R s m args below meth c cells slots Q rm P hC ls st H hok
  obtain ⟨hx, hb, hml, hown, hts, hK, hX, hbl, hN, hJ, hR, hret⟩ := hC
  unfold o_dup
  split
  · rename_i v st
    exact fun hg => ⟨⟨hok.1, q_okS_cons (q_okS_hd hok.2) hok.2⟩, fun k Hh locs lsA hl hP hS => lv_dup hx hb hd (q_cat1 (by simpa using hg)) (k Hh locs lsA hl hP hS)⟩
  · exact trivial
theorem s_pop {sx : QX} {own : String} {cc : ByteArray} {nL : Nat} {rt : Option FieldType} {pc : Nat} (hd : decode cc pc = .ok (.pop, 1)) : q_Snd sx own cc nL rt pc (o_pop (pc + 1)) := by
  intro g p l e R s m args below meth c cells slots Q rm P hC ls st H hok
  obtain ⟨hx, hb, hml, hown, hts, hK, hX, hbl, hN, hJ, hR, hret⟩ := hC
  unfold o_pop
  split
  · rename_i v st
    exact fun hg => ⟨⟨hok.1, q_okS_tl hok.2⟩, fun k Hh locs lsA hl hP hS => lv_pop hx hb hd (q_cat1 (by simpa using hg)) (k Hh locs lsA hl hP hS)⟩
  · exact trivial
theorem s_dup2 {sx : QX} {own : String} {cc : ByteArray} {nL : Nat} {rt : Option FieldType} {pc : Nat} (hd : decode cc pc = .ok (.dup2, 1)) : q_Snd sx own cc nL rt pc (o_dup2 (pc + 1)) := by
  intro g p l e R s m args below meth c cells slots Q rm P hC ls st H hok
  obtain ⟨hx, hb, hml, hown, hts, hK, hX, hbl, hN, hJ, hR, hret⟩ := hC
  unfold o_dup2
  split
  · rename_i v w st
    intro hg
    have h1 : q_big v = false ∧ q_big w = false := by
      cases hv : q_big v <;> cases hw : q_big w <;> simp_all
    exact ⟨⟨hok.1, q_okS_cons (q_okS_hd hok.2) (q_okS_cons (q_okS_hd (q_okS_tl hok.2)) hok.2)⟩, fun k Hh locs lsA hl hP hS => lv_dup2_11 hx hb hd (q_cat1 h1.1) (q_cat1 h1.2) (k Hh locs lsA hl hP hS)⟩
  · exact trivial
def o_if (f : Int32 → Bool) (tg nx : Nat) : QO := fun ls st H => match st with
  | .inl x :: st => some (.inr (.inl (f x, ((tg, (ls, (st, H))), (nx, (ls, (st, H)))))))
  | _ => none
def o_ic (f : Int32 → Int32 → Bool) (tg nx : Nat) : QO := fun ls st H => match st with
  | .inl y :: .inl x :: st => some (.inr (.inl (f x y, ((tg, (ls, (st, H))), (nx, (ls, (st, H)))))))
  | _ => none
def o_goto (tg : Nat) : QO := fun ls st H => some (.inl (true, (tg, (ls, (st, H)))))
def o_ifnull (tg nx : Nat) : QO := fun ls st H => match st with
  | .inr (.inr (0, _)) :: st => some (.inl (true, (tg, (ls, (st, H)))))
  | .inr (.inr (_ + 1, _)) :: st => some (.inl (true, (nx, (ls, (st, H)))))
  | _ => none
theorem s_if_eq {sx : QX} {own : String} {cc : ByteArray} {nL : Nat} {rt : Option FieldType} {pc : Nat} {off : Int} {tg : Nat} (hd : decode cc pc = .ok (.ifCond .eq off, 3)) (ht : (pc : Int) + off = (tg : Int)) : q_Snd sx own cc nL rt pc (o_if (fun x => decide (x = 0)) tg (pc + 3)) := by
  intro g p l e R s m args below meth c cells slots Q rm P hC ls st H hok
  obtain ⟨hx, hb, hml, hown, hts, hK, hX, hbl, hN, hJ, hR, hret⟩ := hC
  unfold o_if
  split
  · rename_i x st
    refine ⟨fun _ => ⟨hok.1, q_okS_tl hok.2⟩, fun _ => ⟨hok.1, q_okS_tl hok.2⟩, fun k1 k2 Hh locs lsA hl hP hS => ?_⟩
    exact lv_if_eq hx hb hd ht (fun hc => k1 (decide_eq_true hc) Hh locs lsA hl hP hS) (fun hc => k2 (decide_eq_false hc) Hh locs lsA hl hP hS)
  · exact trivial
theorem s_ic_eq {sx : QX} {own : String} {cc : ByteArray} {nL : Nat} {rt : Option FieldType} {pc : Nat} {off : Int} {tg : Nat} (hd : decode cc pc = .ok (.if_icmp .eq off, 3)) (ht : (pc : Int) + off = (tg : Int)) : q_Snd sx own cc nL rt pc (o_ic (fun x y => decide (x = y)) tg (pc + 3)) := by
  intro g p l e R s m args below meth c cells slots Q rm P hC ls st H hok
  obtain ⟨hx, hb, hml, hown, hts, hK, hX, hbl, hN, hJ, hR, hret⟩ := hC
  unfold o_ic
  split
  · rename_i y x st
    refine ⟨fun _ => ⟨hok.1, q_okS_tl (q_okS_tl hok.2)⟩, fun _ => ⟨hok.1, q_okS_tl (q_okS_tl hok.2)⟩, fun k1 k2 Hh locs lsA hl hP hS => ?_⟩
    exact lv_icmp_eq hx hb hd ht (fun hc => k1 (decide_eq_true hc) Hh locs lsA hl hP hS) (fun hc => k2 (decide_eq_false hc) Hh locs lsA hl hP hS)
  · exact trivial
theorem s_if_ne {sx : QX} {own : String} {cc : ByteArray} {nL : Nat} {rt : Option FieldType} {pc : Nat} {off : Int} {tg : Nat} (hd : decode cc pc = .ok (.ifCond .ne off, 3)) (ht : (pc : Int) + off = (tg : Int)) : q_Snd sx own cc nL rt pc (o_if (fun x => decide (x ≠ 0)) tg (pc + 3)) := by
  intro g p l e R s m args below meth c cells slots Q rm P hC ls st H hok
  obtain ⟨hx, hb, hml, hown, hts, hK, hX, hbl, hN, hJ, hR, hret⟩ := hC
  unfold o_if
  split
  · rename_i x st
    refine ⟨fun _ => ⟨hok.1, q_okS_tl hok.2⟩, fun _ => ⟨hok.1, q_okS_tl hok.2⟩, fun k1 k2 Hh locs lsA hl hP hS => ?_⟩
    exact lv_if_ne hx hb hd ht (fun hc => k1 (decide_eq_true hc) Hh locs lsA hl hP hS) (fun hc => k2 (decide_eq_false (fun h => h hc)) Hh locs lsA hl hP hS)
  · exact trivial
theorem s_ic_ne {sx : QX} {own : String} {cc : ByteArray} {nL : Nat} {rt : Option FieldType} {pc : Nat} {off : Int} {tg : Nat} (hd : decode cc pc = .ok (.if_icmp .ne off, 3)) (ht : (pc : Int) + off = (tg : Int)) : q_Snd sx own cc nL rt pc (o_ic (fun x y => decide (x ≠ y)) tg (pc + 3)) := by
  intro g p l e R s m args below meth c cells slots Q rm P hC ls st H hok
  obtain ⟨hx, hb, hml, hown, hts, hK, hX, hbl, hN, hJ, hR, hret⟩ := hC
  unfold o_ic
  split
  · rename_i y x st
    refine ⟨fun _ => ⟨hok.1, q_okS_tl (q_okS_tl hok.2)⟩, fun _ => ⟨hok.1, q_okS_tl (q_okS_tl hok.2)⟩, fun k1 k2 Hh locs lsA hl hP hS => ?_⟩
    exact lv_icmp_ne hx hb hd ht (fun hc => k1 (decide_eq_true hc) Hh locs lsA hl hP hS) (fun hc => k2 (decide_eq_false (fun h => h hc)) Hh locs lsA hl hP hS)
  · exact trivial
theorem s_if_lt {sx : QX} {own : String} {cc : ByteArray} {nL : Nat} {rt : Option FieldType} {pc : Nat} {off : Int} {tg : Nat} (hd : decode cc pc = .ok (.ifCond .lt off, 3)) (ht : (pc : Int) + off = (tg : Int)) : q_Snd sx own cc nL rt pc (o_if (fun x => decide (x < 0)) tg (pc + 3)) := by
  intro g p l e R s m args below meth c cells slots Q rm P hC ls st H hok
  obtain ⟨hx, hb, hml, hown, hts, hK, hX, hbl, hN, hJ, hR, hret⟩ := hC
  unfold o_if
  split
  · rename_i x st
    refine ⟨fun _ => ⟨hok.1, q_okS_tl hok.2⟩, fun _ => ⟨hok.1, q_okS_tl hok.2⟩, fun k1 k2 Hh locs lsA hl hP hS => ?_⟩
    exact lv_if_lt hx hb hd ht (fun hc => k1 (decide_eq_true hc) Hh locs lsA hl hP hS) (fun hc => k2 (decide_eq_false hc) Hh locs lsA hl hP hS)
  · exact trivial
theorem s_ic_lt {sx : QX} {own : String} {cc : ByteArray} {nL : Nat} {rt : Option FieldType} {pc : Nat} {off : Int} {tg : Nat} (hd : decode cc pc = .ok (.if_icmp .lt off, 3)) (ht : (pc : Int) + off = (tg : Int)) : q_Snd sx own cc nL rt pc (o_ic (fun x y => decide (x < y)) tg (pc + 3)) := by
  intro g p l e R s m args below meth c cells slots Q rm P hC ls st H hok
  obtain ⟨hx, hb, hml, hown, hts, hK, hX, hbl, hN, hJ, hR, hret⟩ := hC
  unfold o_ic
  split
  · rename_i y x st
    refine ⟨fun _ => ⟨hok.1, q_okS_tl (q_okS_tl hok.2)⟩, fun _ => ⟨hok.1, q_okS_tl (q_okS_tl hok.2)⟩, fun k1 k2 Hh locs lsA hl hP hS => ?_⟩
    exact lv_icmp_lt hx hb hd ht (fun hc => k1 (decide_eq_true hc) Hh locs lsA hl hP hS) (fun hc => k2 (decide_eq_false hc) Hh locs lsA hl hP hS)
  · exact trivial
theorem s_if_ge {sx : QX} {own : String} {cc : ByteArray} {nL : Nat} {rt : Option FieldType} {pc : Nat} {off : Int} {tg : Nat} (hd : decode cc pc = .ok (.ifCond .ge off, 3)) (ht : (pc : Int) + off = (tg : Int)) : q_Snd sx own cc nL rt pc (o_if (fun x => decide (0 ≤ x)) tg (pc + 3)) := by
  intro g p l e R s m args below meth c cells slots Q rm P hC ls st H hok
  obtain ⟨hx, hb, hml, hown, hts, hK, hX, hbl, hN, hJ, hR, hret⟩ := hC
  unfold o_if
  split
  · rename_i x st
    refine ⟨fun _ => ⟨hok.1, q_okS_tl hok.2⟩, fun _ => ⟨hok.1, q_okS_tl hok.2⟩, fun k1 k2 Hh locs lsA hl hP hS => ?_⟩
    exact lv_if_ge hx hb hd ht (fun hc => k1 (decide_eq_true hc) Hh locs lsA hl hP hS) (fun hc => k2 (decide_eq_false hc) Hh locs lsA hl hP hS)
  · exact trivial
theorem s_ic_ge {sx : QX} {own : String} {cc : ByteArray} {nL : Nat} {rt : Option FieldType} {pc : Nat} {off : Int} {tg : Nat} (hd : decode cc pc = .ok (.if_icmp .ge off, 3)) (ht : (pc : Int) + off = (tg : Int)) : q_Snd sx own cc nL rt pc (o_ic (fun x y => decide (y ≤ x)) tg (pc + 3)) := by
  intro g p l e R s m args below meth c cells slots Q rm P hC ls st H hok
  obtain ⟨hx, hb, hml, hown, hts, hK, hX, hbl, hN, hJ, hR, hret⟩ := hC
  unfold o_ic
  split
  · rename_i y x st
    refine ⟨fun _ => ⟨hok.1, q_okS_tl (q_okS_tl hok.2)⟩, fun _ => ⟨hok.1, q_okS_tl (q_okS_tl hok.2)⟩, fun k1 k2 Hh locs lsA hl hP hS => ?_⟩
    exact lv_icmp_ge hx hb hd ht (fun hc => k1 (decide_eq_true hc) Hh locs lsA hl hP hS) (fun hc => k2 (decide_eq_false hc) Hh locs lsA hl hP hS)
  · exact trivial
theorem s_if_gt {sx : QX} {own : String} {cc : ByteArray} {nL : Nat} {rt : Option FieldType} {pc : Nat} {off : Int} {tg : Nat} (hd : decode cc pc = .ok (.ifCond .gt off, 3)) (ht : (pc : Int) + off = (tg : Int)) : q_Snd sx own cc nL rt pc (o_if (fun x => decide (0 < x)) tg (pc + 3)) := by
  intro g p l e R s m args below meth c cells slots Q rm P hC ls st H hok
  obtain ⟨hx, hb, hml, hown, hts, hK, hX, hbl, hN, hJ, hR, hret⟩ := hC
  unfold o_if
  split
  · rename_i x st
    refine ⟨fun _ => ⟨hok.1, q_okS_tl hok.2⟩, fun _ => ⟨hok.1, q_okS_tl hok.2⟩, fun k1 k2 Hh locs lsA hl hP hS => ?_⟩
    exact lv_if_gt hx hb hd ht (fun hc => k1 (decide_eq_true hc) Hh locs lsA hl hP hS) (fun hc => k2 (decide_eq_false hc) Hh locs lsA hl hP hS)
  · exact trivial
theorem s_ic_gt {sx : QX} {own : String} {cc : ByteArray} {nL : Nat} {rt : Option FieldType} {pc : Nat} {off : Int} {tg : Nat} (hd : decode cc pc = .ok (.if_icmp .gt off, 3)) (ht : (pc : Int) + off = (tg : Int)) : q_Snd sx own cc nL rt pc (o_ic (fun x y => decide (y < x)) tg (pc + 3)) := by
  intro g p l e R s m args below meth c cells slots Q rm P hC ls st H hok
  obtain ⟨hx, hb, hml, hown, hts, hK, hX, hbl, hN, hJ, hR, hret⟩ := hC
  unfold o_ic
  split
  · rename_i y x st
    refine ⟨fun _ => ⟨hok.1, q_okS_tl (q_okS_tl hok.2)⟩, fun _ => ⟨hok.1, q_okS_tl (q_okS_tl hok.2)⟩, fun k1 k2 Hh locs lsA hl hP hS => ?_⟩
    exact lv_icmp_gt hx hb hd ht (fun hc => k1 (decide_eq_true hc) Hh locs lsA hl hP hS) (fun hc => k2 (decide_eq_false hc) Hh locs lsA hl hP hS)
  · exact trivial
theorem s_if_le {sx : QX} {own : String} {cc : ByteArray} {nL : Nat} {rt : Option FieldType} {pc : Nat} {off : Int} {tg : Nat} (hd : decode cc pc = .ok (.ifCond .le off, 3)) (ht : (pc : Int) + off = (tg : Int)) : q_Snd sx own cc nL rt pc (o_if (fun x => decide (x ≤ 0)) tg (pc + 3)) := by
  intro g p l e R s m args below meth c cells slots Q rm P hC ls st H hok
  obtain ⟨hx, hb, hml, hown, hts, hK, hX, hbl, hN, hJ, hR, hret⟩ := hC
  unfold o_if
  split
  · rename_i x st
    refine ⟨fun _ => ⟨hok.1, q_okS_tl hok.2⟩, fun _ => ⟨hok.1, q_okS_tl hok.2⟩, fun k1 k2 Hh locs lsA hl hP hS => ?_⟩
    exact lv_if_le hx hb hd ht (fun hc => k1 (decide_eq_true hc) Hh locs lsA hl hP hS) (fun hc => k2 (decide_eq_false hc) Hh locs lsA hl hP hS)
  · exact trivial
theorem s_ic_le {sx : QX} {own : String} {cc : ByteArray} {nL : Nat} {rt : Option FieldType} {pc : Nat} {off : Int} {tg : Nat} (hd : decode cc pc = .ok (.if_icmp .le off, 3)) (ht : (pc : Int) + off = (tg : Int)) : q_Snd sx own cc nL rt pc (o_ic (fun x y => decide (x ≤ y)) tg (pc + 3)) := by
  intro g p l e R s m args below meth c cells slots Q rm P hC ls st H hok
  obtain ⟨hx, hb, hml, hown, hts, hK, hX, hbl, hN, hJ, hR, hret⟩ := hC
  unfold o_ic
  split
  · rename_i y x st
    refine ⟨fun _ => ⟨hok.1, q_okS_tl (q_okS_tl hok.2)⟩, fun _ => ⟨hok.1, q_okS_tl (q_okS_tl hok.2)⟩, fun k1 k2 Hh locs lsA hl hP hS => ?_⟩
    exact lv_icmp_le hx hb hd ht (fun hc => k1 (decide_eq_true hc) Hh locs lsA hl hP hS) (fun hc => k2 (decide_eq_false hc) Hh locs lsA hl hP hS)
  · exact trivial
theorem s_goto {sx : QX} {own : String} {cc : ByteArray} {nL : Nat} {rt : Option FieldType} {pc : Nat} {off : Int} {tg : Nat} (hd : decode cc pc = .ok (.goto off, 3)) (ht : (pc : Int) + off = (tg : Int)) : q_Snd sx own cc nL rt pc (o_goto tg) := by
  intro g p l e R s m args below meth c cells slots Q rm P hC ls st H hok
  obtain ⟨hx, hb, hml, hown, hts, hK, hX, hbl, hN, hJ, hR, hret⟩ := hC
  exact fun _ => ⟨⟨hok.1, hok.2⟩, fun k Hh locs lsA hl hP hS => lv_goto hx hb hd ht (k Hh locs lsA hl hP hS)⟩
theorem s_ifnull {sx : QX} {own : String} {cc : ByteArray} {nL : Nat} {rt : Option FieldType} {pc : Nat} {off : Int} {tg : Nat} (hd : decode cc pc = .ok (.ifnull off, 3)) (ht : (pc : Int) + off = (tg : Int)) : q_Snd sx own cc nL rt pc (o_ifnull tg (pc + 3)) := by
  intro g p l e R s m args below meth c cells slots Q rm P hC ls st H hok
  obtain ⟨hx, hb, hml, hown, hts, hK, hX, hbl, hN, hJ, hR, hret⟩ := hC
  unfold o_ifnull
  split
  · exact fun _ => ⟨⟨hok.1, q_okS_tl hok.2⟩, fun k Hh locs lsA hl hP hS => lv_ifnullN hx hb hd ht (k Hh locs lsA hl hP hS)⟩
  · exact fun _ => ⟨⟨hok.1, q_okS_tl hok.2⟩, fun k Hh locs lsA hl hP hS => lv_ifnull hx hb hd (k Hh locs lsA hl hP hS)⟩
  · exact trivial
theorem s_ifnonnull {sx : QX} {own : String} {cc : ByteArray} {nL : Nat} {rt : Option FieldType} {pc : Nat} {off : Int} {tg : Nat} (hd : decode cc pc = .ok (.ifnonnull off, 3)) (ht : (pc : Int) + off = (tg : Int)) : q_Snd sx own cc nL rt pc (o_ifnull (pc + 3) tg) := by
  intro g p l e R s m args below meth c cells slots Q rm P hC ls st H hok
  obtain ⟨hx, hb, hml, hown, hts, hK, hX, hbl, hN, hJ, hR, hret⟩ := hC
  unfold o_ifnull
  split
  · exact fun _ => ⟨⟨hok.1, q_okS_tl hok.2⟩, fun k Hh locs lsA hl hP hS => lv_ifnonnullN hx hb hd (k Hh locs lsA hl hP hS)⟩
  · exact fun _ => ⟨⟨hok.1, q_okS_tl hok.2⟩, fun k Hh locs lsA hl hP hS => lv_ifnonnull hx hb hd ht (k Hh locs lsA hl hP hS)⟩
  · exact trivial
end
section
def q_inb (i : Int32) (n : Nat) : Bool := !(decide (i < 0) || Nat.ble n i.toNatClampNeg)
theorem q_inb_in {i : Int32} {n : Nat} (h : q_inb i n = true) : vp_in i n := by
  unfold q_inb at h
  simp only [Bool.not_eq_true', Bool.or_eq_false_iff, decide_eq_false_iff_not] at h
  intro q
  rcases q with q | q
  · exact h.1 q
  · rw [Nat.ble_eq_true_of_le q] at h
    exact absurd h.2 (by simp)
def o_iald (nx : Nat) : QO := fun ls st H => match st with
  | .inl i :: .inr (.inr (k, p)) :: st => cond (Nat.ble 100 k) (some (.inl (q_inb i (k - 100), (nx, (ls, (.inl (H p i.toNatClampNeg) :: st, H)))))) none
  | _ => none
def o_iast (nx : Nat) : QO := fun ls st H => match st with
  | .inl x :: .inl i :: .inr (.inr (k, p)) :: st => cond (Nat.ble 100 k) (some (.inl (q_inb i (k - 100), (nx, (ls, (st, q_hs H p i.toNatClampNeg x)))))) none
  | _ => none
def o_aald (nx : Nat) : QO := fun ls st H => match st with
  | .inl i :: .inr (.inr (k, p)) :: st => cond (Nat.ble 20 k) (cond (Nat.ble k 99) (some (.inl (q_inb i (k - 20), (nx, (ls, (.inr (.inr (5, p + 1 + 7 * i.toNatClampNeg)) :: st, H)))))) none) none
  | _ => none
def o_len (nx : Nat) : QO := fun ls st H => match st with
  | .inr (.inr (k, p)) :: st => cond (Nat.ble 100 k) (some (.inl (true, (nx, (ls, (.inl (Int32.ofNat (k - 100)) :: st, H)))))) (cond (Nat.ble 20 k) (some (.inl (true, (nx, (ls, (.inl (Int32.ofNat (k - 20)) :: st, H)))))) none)
  | _ => none
def o_sld (sx : QX) (nx : Nat) : QO := fun ls st H => match st with
  | .inl i :: .inr (.inr (10, 183)) :: st => some (.inl (q_inb i sx.1, (nx, (ls, (.inl (sx.2 i.toNatClampNeg) :: st, H)))))
  | _ => none
def o_slen (sx : QX) (nx : Nat) : QO := fun ls st H => match st with
  | .inr (.inr (10, 183)) :: st => some (.inl (true, (nx, (ls, (.inl (Int32.ofNat sx.1) :: st, H)))))
  | _ => none
def o_gf (ci j nx : Nat) : QO := fun ls st H => match st with
  | .inr (.inr (k, p)) :: st => cond (Nat.beq (q_cio k) ci) (match q_fr k j with
    | none => some (.inl (true, (nx, (ls, (.inl (H p j) :: st, H)))))
    | some o => some (.inl (true, (nx, (ls, (q_rv p o :: st, H)))))) none
  | _ => none
def o_pf (ci j nx : Nat) : QO := fun ls st H => match st with
  | .inl x :: .inr (.inr (k, p)) :: st => cond (Nat.beq (q_cio k) ci) (match q_fr k j with
    | none => some (.inl (true, (nx, (ls, (st, q_hs H p j x)))))
    | some _ => none) none
  | _ => none
theorem q_en_int {g : QG} {H : QH} {p k : Nat} (h : q_sh p = k) (hk : 100 ≤ k) : q_en g H p = .inl (g.2.2.1, (k - 100, .inl (H p))) := by
  unfold q_en q_ek
  rw [h, if_pos hk]
theorem q_en_ref {g : QG} {H : QH} {p k : Nat} (h : q_sh p = k) (hk : 20 ≤ k) (hk2 : k < 100) : q_en g H p = .inl (g.2.2.2, (k - 20, .inr (.inr (.inr (.inr (fun j => some (q_ad g (p + 1 + 7 * j)))))))) := by
  unfold q_en q_ek
  rw [h, if_neg (by omega), if_pos hk]
theorem q_en_obj {g : QG} {H : QH} {p k : Nat} (h : q_sh p = k) (hk2 : k < 20) : q_en g H p = .inr (q_cio k, q_fs g H k p) := by
  unfold q_en q_ek
  rw [h, if_neg (by omega), if_neg (by omega)]
theorem q_cio_lt {k c : Nat} (hc : c < 99) (h : q_cio k = c) : k < 10 ∧ 1 ≤ k := by
  have hk : k < 10 := by
    rcases Nat.lt_or_ge k 10 with h1 | h1
    · exact h1
    · exfalso
      unfold q_cio at h
      rw [List.getD_eq_getElem?_getD, List.getElem?_eq_none (by simpa using h1)] at h
      simp at h
      omega
  refine ⟨hk, ?_⟩
  rcases Nat.eq_zero_or_pos k with h1 | h1
  · subst h1
    have : (99 : Nat) = c := h
    omega
  · exact h1
theorem q_vd_at {k p : Nat} (h : q_vd (.inr (.inr (k, p)))) (h1 : 1 ≤ k) (h2 : k ≠ 10) : p < 183 ∧ q_sh p = k := by
  obtain ⟨k, rfl⟩ : ∃ k', k = k' + 1 := ⟨k - 1, by omega⟩
  rcases h with h | h
  · exact absurd h.1 h2
  · exact h
theorem q_c_ref {g : QG} {k p : Nat} (h1 : 1 ≤ k) : q_c g (.inr (.inr (k, p))) = .ref (q_ad g p) := by
  obtain ⟨k, rfl⟩ : ∃ k', k = k' + 1 := ⟨k - 1, by omega⟩
  rfl
theorem s_iald {sx : QX} {own : String} {cc : ByteArray} {nL : Nat} {rt : Option FieldType} {pc : Nat} (hd : decode cc pc = .ok (.iaload, 1)) : q_Snd sx own cc nL rt pc (o_iald (pc + 1)) := by
  intro g p l e R s m args below meth c cells slots Q rm P hC ls st H hok
  obtain ⟨hx, hb, hml, hown, hts, hK, hX, hbl, hN, hJ, hR, hret⟩ := hC
  unfold o_iald
  split
  · rename_i i k a st
    cases hk : Nat.ble 100 k with
    | false => exact trivial
    | true =>
      have hk1 := Nat.le_of_ble_eq_true hk
      intro hg
      obtain ⟨hp, hsh⟩ := q_vd_at (q_okS_hd (q_okS_tl hok.2)) (by omega) (by omega)
      refine ⟨⟨hok.1, q_okS_cons (q_vI _) (q_okS_tl (q_okS_tl hok.2))⟩, fun kk Hh locs lsA hl hP hS => ?_⟩
      show W p l e R s m args below meth c Hh locs cells slots Q (F0 m pc lsA (.int i :: q_c g (.inr (.inr (k, _))) :: st.map (q_c g)))
      rw [q_c_ref (by omega)]
      exact va_iald hx hb hK hP _ 0 ((q_wd_get g H hp).trans (by rw [q_en_int hsh hk1])) rfl (q_inb_in hg) hd (kk Hh locs lsA hl hP hS)
  · exact trivial
theorem s_iast {sx : QX} {own : String} {cc : ByteArray} {nL : Nat} {rt : Option FieldType} {pc : Nat} (hd : decode cc pc = .ok (.iastore, 1)) : q_Snd sx own cc nL rt pc (o_iast (pc + 1)) := by
  intro g p l e R s m args below meth c cells slots Q rm P hC ls st H hok
  obtain ⟨hx, hb, hml, hown, hts, hK, hX, hbl, hN, hJ, hR, hret⟩ := hC
  unfold o_iast
  split
  · rename_i x i k a st
    cases hk : Nat.ble 100 k with
    | false => exact trivial
    | true =>
      have hk1 := Nat.le_of_ble_eq_true hk
      intro hg
      obtain ⟨hp, hsh⟩ := q_vd_at (q_okS_hd (q_okS_tl (q_okS_tl hok.2))) (by omega) (by omega)
      refine ⟨⟨hok.1, q_okS_tl (q_okS_tl (q_okS_tl hok.2))⟩, fun kk Hh locs lsA hl hP hS => ?_⟩
      show W p l e R s m args below meth c Hh locs cells slots Q (F0 m pc lsA (.int x :: .int i :: q_c g (.inr (.inr (k, _))) :: st.map (q_c g)))
      rw [q_c_ref (by omega)]
      refine va_iast hx hb hK hP (q_wd_D hJ H) hS _ 0 ((q_wd_get g H hp).trans (by rw [q_en_int hsh hk1])) rfl (q_inb_in hg) hd (fun H1 locs1 hP1 hD1 hS1 => ?_)
      refine kk H1 locs1 lsA hl ?_ hS1
      have e1 := q_wd_set g (H := H) (H' := q_hs H _ i.toNatClampNeg x) hp (fun q hq => q_hs_ne hq)
      rw [q_en_int hsh hk1, q_hs_eq] at e1
      rw [e1] at hP1
      exact hP1
  · exact trivial
theorem s_aald {sx : QX} {own : String} {cc : ByteArray} {nL : Nat} {rt : Option FieldType} {pc : Nat} (hd : decode cc pc = .ok (.aaload, 1)) : q_Snd sx own cc nL rt pc (o_aald (pc + 1)) := by
  intro g p l e R s m args below meth c cells slots Q rm P hC ls st H hok
  obtain ⟨hx, hb, hml, hown, hts, hK, hX, hbl, hN, hJ, hR, hret⟩ := hC
  unfold o_aald
  split
  · rename_i i k a st
    cases hk : Nat.ble 20 k with
    | false => exact trivial
    | true =>
      cases hk9 : Nat.ble k 99 with
      | false => exact trivial
      | true =>
        have hk1 := Nat.le_of_ble_eq_true hk
        have hk2 := Nat.le_of_ble_eq_true hk9
        intro hg
        obtain ⟨hp, hsh⟩ := q_vd_at (q_okS_hd (q_okS_tl hok.2)) (by omega) (by omega)
        have hin := q_inb_in hg
        have hlt : i.toNatClampNeg < k - 20 := Nat.not_le.mp fun q => hin (Or.inr q)
        refine ⟨⟨hok.1, q_okS_cons (q_el_ok hp (by omega) (by omega) (by omega)) (q_okS_tl (q_okS_tl hok.2))⟩, fun kk Hh locs lsA hl hP hS => ?_⟩
        show W p l e R s m args below meth c Hh locs cells slots Q (F0 m pc lsA (.int i :: q_c g (.inr (.inr (k, _))) :: st.map (q_c g)))
        rw [q_c_ref (by omega)]
        have hcell : (q_wd g H)[a]? = some (q_ad g a, .inl (g.2.2.2, (k - 20, .inr (.inr (.inr (.inr (fun j => some (q_ad g (a + 1 + 7 * j)))))))))  := (q_wd_get g H hp).trans (by rw [q_en_ref hsh hk1 (by omega)])
        exact va_aldq hx hb hK hP _ 1 hcell rfl hin hd (kk Hh locs lsA hl hP hS)
  · exact trivial
theorem s_len {sx : QX} {own : String} {cc : ByteArray} {nL : Nat} {rt : Option FieldType} {pc : Nat} (hd : decode cc pc = .ok (.arraylength, 1)) : q_Snd sx own cc nL rt pc (o_len (pc + 1)) := by
  intro g p l e R s m args below meth c cells slots Q rm P hC ls st H hok
  obtain ⟨hx, hb, hml, hown, hts, hK, hX, hbl, hN, hJ, hR, hret⟩ := hC
  unfold o_len
  split
  · rename_i k a st
    cases hk : Nat.ble 100 k with
    | true =>
      have hk1 := Nat.le_of_ble_eq_true hk
      intro hg
      obtain ⟨hp, hsh⟩ := q_vd_at (q_okS_hd hok.2) (by omega) (by omega)
      refine ⟨⟨hok.1, q_okS_cons (q_vI _) (q_okS_tl hok.2)⟩, fun kk Hh locs lsA hl hP hS => ?_⟩
      show W p l e R s m args below meth c Hh locs cells slots Q (F0 m pc lsA (q_c g (.inr (.inr (k, _))) :: st.map (q_c g)))
      rw [q_c_ref (by omega)]
      have hcell : (q_wd g H)[a]? = some (q_ad g a, .inl (g.2.2.1, (k - 100, .inl (H a)))) := (q_wd_get g H hp).trans (by rw [q_en_int hsh hk1])
      exact va_alen hx hb hK hP _ 0 hcell rfl rfl hd (kk Hh locs lsA hl hP hS)
    | false =>
      cases hk2 : Nat.ble 20 k with
      | false => exact trivial
      | true =>
        have hk1 := Nat.le_of_ble_eq_true hk2
        have hk3 : k < 100 := Nat.not_le.mp fun q => by rw [q_lT q] at hk; cases hk
        intro hg
        obtain ⟨hp, hsh⟩ := q_vd_at (q_okS_hd hok.2) (by omega) (by omega)
        refine ⟨⟨hok.1, q_okS_cons (q_vI _) (q_okS_tl hok.2)⟩, fun kk Hh locs lsA hl hP hS => ?_⟩
        show W p l e R s m args below meth c Hh locs cells slots Q (F0 m pc lsA (q_c g (.inr (.inr (k, _))) :: st.map (q_c g)))
        rw [q_c_ref (by omega)]
        have hcell : (q_wd g H)[a]? = some (q_ad g a, .inl (g.2.2.2, (k - 20, .inr (.inr (.inr (.inr (fun j => some (q_ad g (a + 1 + 7 * j)))))))))  := (q_wd_get g H hp).trans (by rw [q_en_ref hsh hk1 hk3])
        exact va_alen hx hb hK hP _ 1 hcell rfl rfl hd (kk Hh locs lsA hl hP hS)
  · exact trivial
theorem q_A_b {g : QG} (hJ : q_inj g) : ¬ q_A g (q_ad g 183) := by
  rintro ⟨p, hp, h⟩
  have := hJ 183 p (by omega) (by omega) h
  omega
theorem s_sld {sx : QX} {own : String} {cc : ByteArray} {nL : Nat} {rt : Option FieldType} {pc : Nat} (hd : decode cc pc = .ok (.iaload, 1)) : q_Snd sx own cc nL rt pc (o_sld sx (pc + 1)) := by
  intro g p l e R s m args below meth c cells slots Q rm P hC ls st H hok
  obtain ⟨hx, hb, hml, hown, hts, hK, hX, hbl, hN, hJ, hR, hret⟩ := hC
  unfold o_sld
  split
  · rename_i i st
    intro hg
    exact ⟨⟨hok.1, q_okS_cons (q_vI _) (q_okS_tl (q_okS_tl hok.2))⟩, fun kk Hh locs lsA hl hP hS => va_sld hx hb hX hbl (q_A_b hJ) hS (q_inb_in hg) hd (kk Hh locs lsA hl hP hS)⟩
  · exact trivial
theorem s_slen {sx : QX} {own : String} {cc : ByteArray} {nL : Nat} {rt : Option FieldType} {pc : Nat} (hd : decode cc pc = .ok (.arraylength, 1)) : q_Snd sx own cc nL rt pc (o_slen sx (pc + 1)) := by
  intro g p l e R s m args below meth c cells slots Q rm P hC ls st H hok
  obtain ⟨hx, hb, hml, hown, hts, hK, hX, hbl, hN, hJ, hR, hret⟩ := hC
  unfold o_slen
  split
  · rename_i st
    intro hg
    exact ⟨⟨hok.1, q_okS_cons (q_vI _) (q_okS_tl hok.2)⟩, fun kk Hh locs lsA hl hP hS => va_slen hx hb hX hbl (q_A_b hJ) hS hd (kk Hh locs lsA hl hP hS)⟩
  · exact trivial
theorem q_fs_get {g : QG} {H : QH} {k p j : Nat} (hj : j < q_nf k) : (q_fs g H k p)[j]? = some (q_fv g H k p j) := by
  unfold q_fs
  rw [List.getElem?_map, List.getElem?_range hj]
  rfl
theorem q_fs_set {g : QG} {H : QH} {k p j : Nat} {x : Int32} (h : q_fr k j = none) : (q_fs g H k p).set j (.int x) = q_fs g (q_hs H p j x) k p := by
  refine List.ext_getElem? fun i => ?_
  have hl1 : (q_fs g H k p).length = q_nf k := by simp [q_fs]
  by_cases hi : i < q_nf k
  · rw [q_fs_get hi]
    by_cases hij : i = j
    · subst hij
      rw [List.getElem?_set_self (by rw [hl1]; exact hi)]
      unfold q_fv
      rw [h, q_hs_eq]
      simp [upd]
    · rw [List.getElem?_set_ne (Ne.symm hij), q_fs_get hi]
      unfold q_fv
      rw [q_hs_eq]
      simp [upd, hij]
  · rw [List.getElem?_eq_none (by rw [List.length_set, hl1]; omega), List.getElem?_eq_none (by simp [q_fs]; omega)]
theorem s_gf {sx : QX} {own : String} {cc : ByteArray} {nL : Nat} {rt : Option FieldType} {pc : Nat} {ci j i : Nat} {C : String} {T : u_T} {N : Nat} (hd : decode cc pc = .ok (.getfield i, 3)) (hc : vwCl[ci]? = some (C, T, N)) (hj : j < N) (hN : ∀ k, q_cio k = ci → q_nf k = N) (hin : ∀ w ∈ u_ws C T N, w ∈ q_tw) (hT : (T j).1 = C) (hw : Cond.fieldLink own i C (T j).2.1 (T j).2.2.1 ∈ q_tw) : q_Snd sx own cc nL rt pc (o_gf ci j (pc + 3)) := by
  intro g p l e R s m args below meth c cells slots Q rm P hC ls st H hok
  obtain ⟨hx, hb, hml, hown, hts, hK, hX, hbl, hNst, hJ, hR, hret⟩ := hC
  unfold o_gf
  split
  · rename_i k a st
    cases hk : Nat.beq (q_cio k) ci with
    | false => exact trivial
    | true =>
      have hk1 : q_cio k = ci := Nat.eq_of_beq_eq_true hk
      have hci : ci < 8 := (List.getElem?_eq_some_iff.mp hc).1
      obtain ⟨hk2, hk3⟩ := q_cio_lt (by omega) hk1
      obtain ⟨hp, hsh⟩ := q_vd_at (q_okS_hd hok.2) hk3 (by omega)
      have hcell := (q_wd_get g H hp).trans (by rw [q_en_obj hsh (by omega), hk1])
      have hf := q_fs_get (g := g) (H := H) (k := k) (p := a) (j := j) (by rw [hN k hk1]; exact hj)
      have hsame : ∀ x, s.fieldFound? (T j).1 (T j).2.1 (T j).2.2.1 = some x → s.fieldFound? C (T j).2.1 (T j).2.2.1 = some x := fun x h => hT ▸ h
      cases hfr : q_fr k j with
      | none =>
        refine fun _ => ⟨⟨hok.1, q_okS_cons (q_vI _) (q_okS_tl hok.2)⟩, fun kk Hh locs lsA hl hP hS => ?_⟩
        show W p l e R s m args below meth c Hh locs cells slots Q (F0 m pc lsA (q_c g (.inr (.inr (k, _))) :: st.map (q_c g)))
        rw [q_c_ref hk3]
        exact va_get hx hb hts hin hown hK hP _ hcell hc j hj (hts _ hw) hsame (v := .int (H _ j)) (by rw [hf]; unfold q_fv; rw [hfr]) hd (kk Hh locs lsA hl hP hS)
      | some o =>
        refine fun _ => ⟨⟨hok.1, q_okS_cons (q_fr_ok hp (by rw [hsh]; exact hfr)).1 (q_okS_tl hok.2)⟩, fun kk Hh locs lsA hl hP hS => ?_⟩
        show W p l e R s m args below meth c Hh locs cells slots Q (F0 m pc lsA (q_c g (.inr (.inr (k, _))) :: st.map (q_c g)))
        rw [q_c_ref hk3]
        exact va_get hx hb hts hin hown hK hP _ hcell hc j hj (hts _ hw) hsame (v := q_c g (q_rv _ o)) (by rw [hf]; unfold q_fv; rw [hfr]) hd (kk Hh locs lsA hl hP hS)
  · exact trivial
theorem s_pf {sx : QX} {own : String} {cc : ByteArray} {nL : Nat} {rt : Option FieldType} {pc : Nat} {ci j i : Nat} {C : String} {T : u_T} {N : Nat} (ty0 : Nat → FieldType) (hd : decode cc pc = .ok (.putfield i, 3)) (hc : vwCl[ci]? = some (C, T, N)) (hj : j < N) (hN : ∀ k, q_cio k = ci → q_nf k = N) (hin : ∀ w ∈ u_ws C T N, w ∈ q_tw) (hT : (T j).1 = C) (hw : Cond.fieldLink own i C (T j).2.1 (T j).2.2.1 ∈ q_tw) (hty : ∀ k, k < N → parseFieldDescriptor (T k).2.2.1 = some (ty0 k)) (hnm : ∀ a, a < N → ∀ b, b < N → a ≠ b → (T a).2.1 ≠ (T b).2.1) (hfin : (T j).2.2.2 = false) (hint : ty0 j = .int) : q_Snd sx own cc nL rt pc (o_pf ci j (pc + 3)) := by
  intro g p l e R s m args below meth c cells slots Q rm P hC ls st H hok
  obtain ⟨hx, hb, hml, hown, hts, hK, hX, hbl, hNst, hJ, hR, hret⟩ := hC
  unfold o_pf
  split
  · rename_i x k a st
    cases hk : Nat.beq (q_cio k) ci with
    | false => exact trivial
    | true =>
      have hk1 : q_cio k = ci := Nat.eq_of_beq_eq_true hk
      have hci : ci < 8 := (List.getElem?_eq_some_iff.mp hc).1
      obtain ⟨hk2, hk3⟩ := q_cio_lt (by omega) hk1
      obtain ⟨hp, hsh⟩ := q_vd_at (q_okS_hd (q_okS_tl hok.2)) hk3 (by omega)
      have hcell := (q_wd_get g H hp).trans (by rw [q_en_obj hsh (by omega), hk1])
      have hsame : ∀ x, s.fieldFound? (T j).1 (T j).2.1 (T j).2.2.1 = some x → s.fieldFound? C (T j).2.1 (T j).2.2.1 = some x := fun x h => hT ▸ h
      cases hfr : q_fr k j with
      | some o => exact trivial
      | none =>
        refine fun _ => ⟨⟨hok.1, q_okS_tl (q_okS_tl hok.2)⟩, fun kk Hh locs lsA hl hP hS => ?_⟩
        show W p l e R s m args below meth c Hh locs cells slots Q (F0 m pc lsA (.int x :: q_c g (.inr (.inr (k, _))) :: st.map (q_c g)))
        rw [q_c_ref hk3]
        refine va_put hx hb hts hin ty0 hty hnm hown hK hP (q_wd_D hJ H) hS _ hcell hc j hj (hts _ hw) hsame hfin (ty := .int) (v := .int x) (by rw [hty j hj, hint]) rfl rfl (by simp [q_fs]; rw [hN k hk1]; exact hj) hd (fun H1 locs1 hP1 hD1 hS1 => ?_)
        refine kk H1 locs1 lsA hl ?_ hS1
        have e1 := q_wd_set g (H := H) (H' := q_hs H _ j x) hp (fun q hq => q_hs_ne hq)
        rw [q_en_obj hsh (by omega), hk1, ← q_fs_set hfr] at e1
        rw [e1] at hP1
        exact hP1
  · exact trivial
/-! returns -/
def o_ir (bz : Bool) : QO := fun ls st H => match st with
  | [.inl x] => some (.inr (.inr (.inl (cond bz (decide (x = 0) || decide (x = 1)) true, (some (.inl x), H)))))
  | _ => none
def o_vr : QO := fun ls st H => match st with
  | [] => some (.inr (.inr (.inl (true, (none, H)))))
  | _ => none
def o_ar : QO := fun ls st H => match st with
  | [.inr (.inr (k, p))] => some (.inr (.inr (.inl (true, (some (.inr (.inr (k, p))), H)))))
  | _ => none
theorem s_ir {sx : QX} {own : String} {cc : ByteArray} {nL : Nat} {rt : Option FieldType} {pc : Nat} (hd : decode cc pc = .ok (.ireturn, 1)) (hrt : rt = some .int) : q_Snd sx own cc nL rt pc (o_ir false) := by
  intro g p l e R s m args below meth c cells slots Q rm P hC ls st H hok
  obtain ⟨hx, hb, hml, hown, hts, hK, hX, hbl, hN, hJ, hR, hret⟩ := hC
  unfold o_ir
  split
  · rename_i x
    exact fun _ => ⟨fun v hv => by cases hv; exact trivial, fun hPr Hh locs lsA hl hP hS => hret.1 pc x H Hh locs lsA .int hrt rfl hd hPr hP hS⟩
  · exact trivial
theorem q_bool {x : Int32} (h : (decide (x = 0) || decide (x = 1)) = true) : narrow .boolean (.int x) = .int x := by
  simp only [Bool.or_eq_true, decide_eq_true_eq] at h
  rcases h with rfl | rfl <;> rfl
theorem s_zr {sx : QX} {own : String} {cc : ByteArray} {nL : Nat} {rt : Option FieldType} {pc : Nat} (hd : decode cc pc = .ok (.ireturn, 1)) (hrt : rt = some .boolean) : q_Snd sx own cc nL rt pc (o_ir true) := by
  intro g p l e R s m args below meth c cells slots Q rm P hC ls st H hok
  obtain ⟨hx, hb, hml, hown, hts, hK, hX, hbl, hN, hJ, hR, hret⟩ := hC
  unfold o_ir
  split
  · rename_i x
    exact fun hg => ⟨fun v hv => by cases hv; exact trivial, fun hPr Hh locs lsA hl hP hS => hret.1 pc x H Hh locs lsA .boolean hrt (q_bool hg) hd hPr hP hS⟩
  · exact trivial
theorem s_vr {sx : QX} {own : String} {cc : ByteArray} {nL : Nat} {rt : Option FieldType} {pc : Nat} (hd : decode cc pc = .ok (.return_, 1)) (hrt : rt = none) : q_Snd sx own cc nL rt pc o_vr := by
  intro g p l e R s m args below meth c cells slots Q rm P hC ls st H hok
  obtain ⟨hx, hb, hml, hown, hts, hK, hX, hbl, hN, hJ, hR, hret⟩ := hC
  unfold o_vr
  split
  · exact fun _ => ⟨(fun v hv => by cases hv), fun hPr Hh locs lsA hl hP hS => hret.2.1 pc H Hh locs lsA hrt hd hPr hP hS⟩
  · exact trivial
theorem s_ar {sx : QX} {own : String} {cc : ByteArray} {nL : Nat} {rt : Option FieldType} {pc : Nat} {C : String} (hd : decode cc pc = .ok (.areturn, 1)) (hrt : rt = some (.object C)) : q_Snd sx own cc nL rt pc o_ar := by
  intro g p l e R s m args below meth c cells slots Q rm P hC ls st H hok
  obtain ⟨hx, hb, hml, hown, hts, hK, hX, hbl, hN, hJ, hR, hret⟩ := hC
  unfold o_ar
  split
  · rename_i k a
    exact fun _ => ⟨fun v hv => by cases hv; exact q_okS_hd hok.2, fun hPr Hh locs lsA hl hP hS => hret.2.2 pc k a H Hh locs lsA C hrt hd (q_okS_hd hok.2) hPr hP hS⟩
  · exact trivial
end
section
def q_pk (x : Int32) (d : Nat) : List (Int32 × Nat) → Nat
  | [] => d
  | (k, t) :: l => if x = k then t else q_pk x d l
def o_sw (l : List (Int32 × Nat)) (d : Nat) : QO := fun ls st H => match st with
  | .inl x :: st => some (.inr (.inr (.inr (.inr (x, (l.map (fun q => (q.1, (q.2, (ls, (st, H))))), (d, (ls, (st, H)))))))))
  | _ => none
theorem q_pick_pk (x : Int32) (d : Nat) (ls : QL) (st : List QV) (H : QH) (l : List (Int32 × Nat)) : q_pick x (d, (ls, (st, H))) (l.map (fun q => (q.1, (q.2, (ls, (st, H)))))) = (q_pk x d l, (ls, (st, H))) := by
  induction l with
  | nil => rfl
  | cons q l ih =>
    obtain ⟨k, t⟩ := q
    show (if x = k then _ else _) = ((if x = k then t else q_pk x d l), _)
    by_cases h : x = k
    · rw [if_pos h, if_pos h]
    · rw [if_neg h, if_neg h]; exact ih
def q_tck (pc : Int) : List Int → Int → List (Int32 × Nat) → Bool
  | [], _, [] => true
  | o :: os, k, (k', t) :: l => decide (k'.toInt = k) && (decide (pc + o = (t : Int)) && q_tck pc os (k + 1) l)
  | _, _, _ => false
theorem q_tck_out {pc : Int} {x : Int32} {d : Nat} : ∀ (os : List Int) (k : Int) (l : List (Int32 × Nat)), q_tck pc os k l = true → (x.toInt < k ∨ k + os.length ≤ x.toInt) → q_pk x d l = d
  | [], k, [], _, _ => rfl
  | [], k, _ :: _, h, _ => by cases h
  | _ :: _, k, [], h, _ => by cases h
  | o :: os, k, (k', t) :: l, h, hx => by
    simp only [q_tck, Bool.and_eq_true, decide_eq_true_eq] at h
    obtain ⟨h1, h2, h3⟩ := h
    have hne : ¬ x = k' := fun e => by
      subst e
      simp only [List.length_cons] at hx
      omega
    show (if x = k' then t else q_pk x d l) = d
    rw [if_neg hne]
    refine q_tck_out os (k + 1) l h3 ?_
    simp only [List.length_cons] at hx
    have : x.toInt ≠ k := fun e => hne (Int32.toInt_inj.mp (by rw [h1]; exact e))
    omega
theorem q_tck_in {pc : Int} {x : Int32} {d : Nat} : ∀ (os : List Int) (k : Int) (l : List (Int32 × Nat)), q_tck pc os k l = true → k ≤ x.toInt → x.toInt < k + os.length → ∃ off, os[(x.toInt - k).toNat]? = some off ∧ pc + off = (q_pk x d l : Int)
  | [], k, _, _, h1, h2 => by simp at h2; omega
  | _ :: _, k, [], h, _, _ => by cases h
  | o :: os, k, (k', t) :: l, h, hx1, hx2 => by
    simp only [q_tck, Bool.and_eq_true, decide_eq_true_eq] at h
    obtain ⟨h1, h2, h3⟩ := h
    by_cases hxk : x.toInt = k
    · have e : x = k' := Int32.toInt_inj.mp (by rw [h1]; exact hxk)
      refine ⟨o, by rw [hxk]; simp, ?_⟩
      show pc + o = ((if x = k' then t else q_pk x d l : Nat) : Int)
      rw [if_pos e]; exact h2
    · have hne : ¬ x = k' := fun e => hxk (by rw [e]; exact h1)
      simp only [List.length_cons] at hx2
      obtain ⟨off, e1, e2⟩ := q_tck_in (d := d) (x := x) os (k + 1) l h3 (by omega) (by omega)
      refine ⟨off, ?_, ?_⟩
      · have : (x.toInt - k).toNat = (x.toInt - (k + 1)).toNat + 1 := by omega
        rw [this, List.getElem?_cons_succ]; exact e1
      · show pc + off = ((if x = k' then t else q_pk x d l : Nat) : Int)
        rw [if_neg hne]; exact e2
theorem s_tsw {sx : QX} {own : String} {cc : ByteArray} {nL : Nat} {rt : Option FieldType} {pc : Nat} {l : List (Int32 × Nat)} {d : Nat} {dflt lo hi : Int} {offs : Array Int} {len : Nat} (hd : decode cc pc = .ok (.tableswitch dflt lo hi offs, len)) (hc : q_tck pc offs.toList lo l = true) (hh : hi = lo + offs.toList.length - 1) (hdf : (pc : Int) + dflt = (d : Int)) : q_Snd sx own cc nL rt pc (o_sw l d) := by
  intro g p l e R s m args below meth c cells slots Q rm P hC ls st H hok
  obtain ⟨hx, hb, hml, hown, hts, hK, hX, hbl, hN, hJ, hR, hret⟩ := hC
  unfold o_sw
  split
  · rename_i x st
    show q_ok (q_pick _ _ _) ∧ (q_W g p l e R s m args below meth c cells slots Q nL (q_pick _ _ _) → _)
    rw [q_pick_pk]
    refine ⟨⟨hok.1, q_okS_tl hok.2⟩, fun kk Hh locs lsA hl hP hS => ?_⟩
    by_cases hb1 : x.toInt < lo ∨ hi < x.toInt
    · have e := q_tck_out (d := d) (x := x) _ _ _ hc (by omega)
      have kk := kk Hh locs lsA hl hP hS
      rw [e] at kk
      exact lv_tableOut hx hb hd hb1 hdf kk
    · obtain ⟨off, e1, e2⟩ := q_tck_in (d := d) (x := x) _ _ _ hc (by omega) (by omega)
      exact lv_tableIn hx hb hd (fun h => hb1 (Or.inl h)) (fun h => hb1 (Or.inr h)) (by rw [← Array.getElem?_toList]; exact e1) e2 (kk Hh locs lsA hl hP hS)
  · exact trivial
def q_lck (pc : Int) : List (Int × Int) → List (Int32 × Nat) → Bool
  | [], [] => true
  | (a, o) :: os, (k, t) :: l => decide (k.toInt = a) && (decide (pc + o = (t : Int)) && q_lck pc os l)
  | _, _ => false
theorem q_lck_ok {pc dflt : Int} {x : Int32} {d : Nat} (hdf : pc + dflt = (d : Int)) : ∀ (os : List (Int × Int)) (l : List (Int32 × Nat)), q_lck pc os l = true → pc + Op.lookupswitch.offset os dflt x.toInt = (q_pk x d l : Int)
  | [], [], _ => by
    show pc + Op.lookupswitch.offset [] dflt x.toInt = (d : Int)
    rw [← hdf]; rfl
  | [], _ :: _, h => by cases h
  | _ :: _, [], h => by cases h
  | (a, o) :: os, (k, t) :: l, h => by
    simp only [q_lck, Bool.and_eq_true, decide_eq_true_eq] at h
    obtain ⟨h1, h2, h3⟩ := h
    by_cases e : x = k
    · show _ = ((if x = k then t else q_pk x d l : Nat) : Int)
      rw [if_pos e, Op.lookupswitch.offset_cons, if_pos (by rw [e]; exact h1.symm)]
      exact h2
    · show _ = ((if x = k then t else q_pk x d l : Nat) : Int)
      rw [if_neg e, lv_osw e h1]
      exact q_lck_ok hdf os l h3
theorem s_lsw {sx : QX} {own : String} {cc : ByteArray} {nL : Nat} {rt : Option FieldType} {pc : Nat} {l : List (Int32 × Nat)} {d : Nat} {dflt : Int} {ps : Array (Int × Int)} {len : Nat} (hd : decode cc pc = .ok (.lookupswitch dflt ps, len)) (hp : (ps.toList.zip (ps.toList.drop 1)).all (fun (a, next) => a.1 < next.1) = true) (hc : q_lck pc ps.toList l = true) (hdf : (pc : Int) + dflt = (d : Int)) : q_Snd sx own cc nL rt pc (o_sw l d) := by
  intro g p l e R s m args below meth c cells slots Q rm P hC ls st H hok
  obtain ⟨hx, hb, hml, hown, hts, hK, hX, hbl, hN, hJ, hR, hret⟩ := hC
  unfold o_sw
  split
  · rename_i x st
    show q_ok (q_pick _ _ _) ∧ (q_W g p l e R s m args below meth c cells slots Q nL (q_pick _ _ _) → _)
    rw [q_pick_pk]
    exact ⟨⟨hok.1, q_okS_tl hok.2⟩, fun kk Hh locs lsA hl hP hS => lv_lookup hx hb hd hp rfl (q_lck_ok hdf _ _ hc) (kk Hh locs lsA hl hP hS)⟩
  · exact trivial
/-! calls -/
def q_pop : Nat → List QV → List QV → Option (List QV × List QV)
  | 0, st, acc => some (acc, st)
  | n + 1, v :: st, acc => q_pop n st (v :: acc)
  | _ + 1, [], _ => none
theorem q_pop_eq : ∀ (n : Nat) (st acc as rest : List QV), q_pop n st acc = some (as, rest) → ∃ b, st = b ++ rest ∧ as = b.reverse ++ acc ∧ b.length = n
  | 0, st, acc, as, rest, h => by cases h; exact ⟨[], rfl, rfl, rfl⟩
  | n + 1, [], acc, as, rest, h => by cases h
  | n + 1, v :: st, acc, as, rest, h => by
    obtain ⟨b, h1, h2, h3⟩ := q_pop_eq n st (v :: acc) as rest h
    exact ⟨v :: b, by rw [h1]; rfl, by rw [h2]; simp, by simp [h3]⟩
theorem q_pop_0 {n : Nat} {st as rest : List QV} (h : q_pop n st [] = some (as, rest)) : st = as.reverse ++ rest ∧ as.length = n := by
  obtain ⟨b, h1, h2, h3⟩ := q_pop_eq n st [] as rest h
  rw [List.append_nil] at h2
  subst h2
  exact ⟨by rw [List.reverse_reverse]; exact h1, by simp [h3]⟩
theorem q_cats_eq (g : QG) : ∀ st : List QV, ((st.map (q_c g)).map fun v => v.category).sum = q_cats st
  | [] => rfl
  | v :: st => by
    have := q_cats_eq g st
    simp only [List.map_cons, List.sum_cons, this, q_big_cat, q_cats]
    cases q_big v <;> rfl
def q_kn (rk nx : Nat) (ls : QL) (rest : List QV) : QC := match rk with
  | 0 => .inl (fun H => (nx, (ls, (rest, H))))
  | 1 => .inr (.inl (fun x H => (nx, (ls, (.inl x :: rest, H)))))
  | _ => .inr (.inr ((fun H => (nx, (ls, (.inr (.inr (0, 0)) :: rest, H)))), (fun p H => (nx, (ls, (.inr (.inr (5, p)) :: rest, H))))))
def o_cS (rk mid ml n nx : Nat) : QO := fun ls st H => match q_pop n st [] with
  | some (as, rest) => some (.inr (.inr (.inr (.inl (cond (Nat.ble (q_cats as) ml) (Nat.ble (q_cats rest) 8) false, ((mid, (as, H)), q_kn rk nx ls rest))))))
  | none => none
def o_cV (rk ci mid ml n nx : Nat) : QO := fun ls st H => match q_pop n st [] with
  | some (.inr (.inr (k, p)) :: as, rest) => some (.inr (.inr (.inr (.inl (cond (Nat.beq (q_cio k) ci) (cond (Nat.ble (q_cats (.inr (.inr (k, p)) :: as)) ml) (Nat.ble (q_cats rest) 8) false) false, ((mid, (.inr (.inr (k, p)) :: as, H)), q_kn rk nx ls rest))))))
  | _ => none
def o_max (nx : Nat) : QO := fun ls st H => match st with
  | .inl y :: .inl x :: st => some (.inl (Nat.ble (q_cats st) 8, (nx, (ls, (.inl (if x < y then y else x) :: st, H)))))
  | _ => none
theorem q_back {g : QG} {p : Program} {l : Launch} {e : Env} {R : Room} {s : State} {m : MethodId} {args : Array Value} {below : List Frame} {meth : Method} {c : Code} {cells slots : Nat} {Q : State → Prop} {nL : Nat} {r : QR} {pc : Nat} {lsA : Array Slot} {st0 rest : List Value} {a : Array Value} {Hh : Heap} {locs : List Loc} (hr : va_Run p l e R s m args below meth c Hh locs cells slots 0 0 (F0 m pc lsA st0) rest (q_Qc g r a) (q_A g)) (hS : va_S (q_A g) s.heap Hh locs)
    (kk : ∀ (H1 : Heap) (locs1 : List Loc), q_okR r → va_P g.1 vwCl (q_wd g r.2) H1 → va_S (q_A g) s.heap H1 locs1 → W p l e R s m args below meth c H1 locs1 cells slots Q (F0 m (pc + 3) lsA ((r.1.map (q_c g)).toList ++ rest))) : W p l e R s m args below meth c Hh locs cells slots Q (F0 m pc lsA st0) := by
  intro T hT X
  obtain ⟨v, st₀, t, T', L, h0, X', hL, e1, e2, ⟨⟨hvr, hv, hb⟩, hz, hk⟩, st⟩ := hr T hT X
  cases hv
  rw [h0] at hz hk
  obtain ⟨t2, a1, b1⟩ := kk T'.heap (locs ++ L) hvr (by rw [e1]; exact hb)
    ⟨Nat.le_trans hS.1 (by rw [e1]; exact hz), fun q h1 h2 => by rw [e1, hk q (Nat.lt_of_lt_of_le h1 hS.1) h2]; exact hS.2.1 q h1 h2, fun q hq => by
      rcases List.mem_append.mp hq with h | h
      · exact hS.2.2 q h
      · exact hL q h⟩ T' rfl X'
  exact ⟨t2, st t2 a1, b1⟩
theorem q_gd {a b c d : Nat} (h : cond (Nat.ble a b) (Nat.ble c d) false = true) : a ≤ b ∧ c ≤ d := by
  cases h1 : Nat.ble a b with
  | false => rw [h1] at h; cases h
  | true => rw [h1] at h; exact ⟨Nat.le_of_ble_eq_true h1, Nat.le_of_ble_eq_true h⟩
theorem q_gd0 {a b : Bool} (h : cond a b false = true) : a = true ∧ b = true := by
  cases a
  · cases h
  · exact ⟨rfl, h⟩
theorem q_sl_len (g : QG) : ∀ vs : List QV, (lg_sl (vs.map (q_c g))).length = q_cats vs
  | [] => rfl
  | v :: vs => by
    have h := q_sl_len g vs
    unfold lg_sl at h ⊢
    rw [List.map_cons, List.flatMap_cons, List.length_append, h, q_big_cat]
    show _ = cond (q_big v) 2 1 + q_cats vs
    cases q_big v <;> rfl
/-- what a call's end gives, whatever kind of answer it has -/
theorem q_callSp {sx : QX} {g : QG} {p : Program} {l : Launch} {e : Env} {R : Room} {s : State} {m : MethodId} {args : Array Value} {below : List Frame} {meth : Method} {c : Code} {cells slots : Nat} {Q : State → Prop} {nL : Nat} {rm : Room} {P : QR → Prop} {pc rk mid : Nat} {ls : QL} {st as rest : List QV} {H : QH} {b : Bool} {nx : Nat} (hnx : nx = pc + 3) (hcat : b = true → q_cats as ≤ (q_inf mid).2.2.1) (hok : q_ok (pc, (ls, (st, H)))) (hst : st = as.reverse ++ rest)
    (hrun : b = true → ∀ (r : QR), q_Met g sx l rm (mid, (as, H)) r → ∀ (Hh : Heap) (locs : List Loc) (lsA : Array Slot), lv_has lsA nL (ls.map (q_cl g)) → va_P g.1 vwCl (q_wd g H) Hh → va_S (q_A g) s.heap Hh locs → ∃ a, va_Run p l e R s m args below meth c Hh locs cells slots 0 0 (F0 m pc lsA (st.map (q_c g))) (rest.map (q_c g)) (q_Qc g r a) (q_A g)) :
    q_Sp sx g p l e R s m args below meth c cells slots Q nL rm P (pc, (ls, (st, H))) (some (.inr (.inr (.inr (.inl (b, ((mid, (as, H)), q_kn rk nx ls rest))))))) := by
  subst hnx
  have hokR : q_okS rest := fun v hv => hok.2 v (by rw [show st = _ from hst]; exact List.mem_append_right _ hv)
  have hokA : q_okS as := fun v hv => hok.2 v (by rw [show st = _ from hst]; exact List.mem_append_left _ (List.mem_reverse.mpr hv))
  match rk with
  | 0 =>
    refine fun hb => ⟨⟨hokA, hcat hb⟩, fun H' => ⟨⟨hok.1, hokR⟩, fun hm kk Hh locs lsA hl hP hS => ?_⟩⟩
    obtain ⟨a, hr⟩ := hrun hb _ hm Hh locs lsA hl hP hS
    exact q_back (nL := nL) hr hS (fun H1 locs1 _ hP1 hS1 => kk H1 locs1 lsA hl hP1 hS1)
  | 1 =>
    refine fun hb => ⟨⟨hokA, hcat hb⟩, fun x H' => ⟨⟨hok.1, q_okS_cons (q_vI _) hokR⟩, fun hm kk Hh locs lsA hl hP hS => ?_⟩⟩
    obtain ⟨a, hr⟩ := hrun hb _ hm Hh locs lsA hl hP hS
    exact q_back (nL := nL) hr hS (fun H1 locs1 _ hP1 hS1 => kk H1 locs1 lsA hl hP1 hS1)
  | n + 2 =>
    refine fun hb => ⟨⟨hokA, hcat hb⟩, fun y H' => ⟨⟨hok.1, q_okS_cons trivial hokR⟩, fun hm kk Hh locs lsA hl hP hS => ?_⟩, fun q H' => ⟨fun hv => ⟨hok.1, q_okS_cons hv hokR⟩, fun hm kk Hh locs lsA hl hP hS => ?_⟩⟩
    · obtain ⟨a, hr⟩ := hrun hb _ hm Hh locs lsA hl hP hS
      exact q_back (nL := nL) hr hS (fun H1 locs1 _ hP1 hS1 => kk H1 locs1 lsA hl hP1 hS1)
    · obtain ⟨a, hr⟩ := hrun hb _ hm Hh locs lsA hl hP hS
      exact q_back (nL := nL) hr hS (fun H1 locs1 hvr hP1 hS1 => kk (hvr _ rfl) H1 locs1 lsA hl hP1 hS1)
theorem q_ws_good {mid : Nat} {y : MethodName} {bytes : ByteArray} {ml : Nat} {ret : Option FieldType} (hi : q_inf mid = (y, (bytes, (ml, ret)))) (h5 : Cond.code y bytes ml ret ∈ q_tw) : ∀ w ∈ q_ws mid, w ∈ q_tw ∧ ((w.onTables && w.keeps) = true ∨ ∃ ty, w = .arrayClass ty) := by
  intro w hw
  rcases List.mem_cons.mp hw with h | h
  · rw [hi] at h
    subst h
    exact ⟨h5, q_tw_good h5⟩
  · exact ⟨h, q_tw_good h⟩
theorem q_ws_code {mid : Nat} {y : MethodName} {bytes : ByteArray} {ml : Nat} {ret : Option FieldType} (hi : q_inf mid = (y, (bytes, (ml, ret)))) : Cond.code y bytes ml ret ∈ q_ws mid := by
  unfold q_ws
  rw [hi]
  exact List.mem_cons_self
/-- the world as a callee is told it -/
theorem q_pre {sx : QX} {g : QG} {s U : State} {Hh : Heap} {locs : List Loc} {H : QH} (hK : va_K g.1 vwCl (q_tys g) s) (hX : va_X (q_ad g 183) sx.1 sx.2 s s.heap) (hbl : q_ad g 183 < s.heap.size) (hN : ∀ w ∈ q_nests, va_Nw w s) (hJ : q_inj g) (hP : va_P g.1 vwCl (q_wd g H) Hh) (hS : va_S (q_A g) s.heap Hh locs) (hU : U.heap = Hh) (hW : s.WarmedH U.vm) : q_WP g sx H U :=
  ⟨by rw [hU]; exact hP, va_K.moved hW.alike hK, va_X.moved hW.alike (by rw [hU]; exact hX.kept (hS.2.1 _ hbl (q_A_b hJ))), fun w hw => q_nests_warm hW w hw (hN w hw)⟩
theorem s_cS {sx : QX} {own : String} {cc : ByteArray} {nL : Nat} {rt : Option FieldType} {pc : Nat} {rk mid n i : Nat} {y : MethodName} {bytes : ByteArray} {ml : Nat} {ret : Option FieldType} (hi : q_inf mid = (y, (bytes, (ml, ret)))) (hd : decode cc pc = .ok (.invokestatic i, 3)) (h1 : Cond.methodLink own i y ∈ q_tw) (h2 : Cond.static y ∈ q_tw) (h3 : Cond.initialized y.cls ∈ q_tw) (h5 : Cond.code y bytes ml ret ∈ q_tw) (hy : y.cls ≠ "java/lang/invoke/MethodHandle" ∧ y.cls ≠ "java/lang/invoke/VarHandle") (hn : (parseMethodDescriptor y.desc).map (fun d => d.parameters.length) = some n) (hl40 : ml ≤ 40) : q_Snd sx own cc nL rt pc (o_cS rk mid ml n (pc + 3)) := by
  intro g p l e R s m args below meth c cells slots Q rm P hC ls st H hok
  obtain ⟨hx, hb, hml, hown, hts, hK, hX, hbl, hN, hJ, hR, hret⟩ := hC
  unfold o_cS
  split
  · rename_i as rest hpop
    obtain ⟨hst, hlen⟩ := q_pop_0 hpop
    refine q_callSp rfl (fun hg => by rw [hi]; exact (q_gd hg).1) hok hst (fun hg r hm Hh locs lsA hl hP hS => ?_)
    have hg := (q_gd hg).2
    unfold q_Met at hm
    rw [hi] at hm
    obtain ⟨hr1, hr2, hr3, hr4, hr5, hr6⟩ := hR
    refine ⟨_, va_runS (As := as.map (q_c g)) (rest := rest.map (q_c g)) (n := n) ⟨hx, hb, hml, hown, hts⟩ hm ⟨⟨hr1, hr2, hr3, by omega, pay_in hts (q_ws_good hi h5), q_ws_code hi, hts _ h5, hts _ h3, hy, fun sig h => ?_, hts _ h1⟩, hts _ h2⟩ ⟨q_blind g sx _, fun U hU hW => ⟨rfl, q_pre hK hX hbl hN hJ hP hS hU hW⟩⟩ rfl (by simp [hlen]) hl.1 ?_ ?_ hd ⟨by omega, by omega⟩⟩
    · rw [h] at hn
      exact (Option.some.inj hn).symm
    · show (st.map (q_c g)) = _
      rw [hst, List.map_append, List.map_reverse]
    · show 2 * 0 + _ ≤ 8
      rw [q_cats_eq]; omega
  · exact trivial
theorem s_cN {sx : QX} {own : String} {cc : ByteArray} {nL : Nat} {rt : Option FieldType} {pc : Nat} {rk mid n i : Nat} {host : String} {y : MethodName} {bytes : ByteArray} {ml : Nat} {ret : Option FieldType} (hi : q_inf mid = (y, (bytes, (ml, ret)))) (hd : decode cc pc = .ok (.invokestatic i, 3)) (h1 : Cond.methodLinkNest own i y host ∈ q_nests) (h2 : Cond.static y ∈ q_tw) (h3 : Cond.initialized y.cls ∈ q_tw) (h5 : Cond.code y bytes ml ret ∈ q_tw) (hy : y.cls ≠ "java/lang/invoke/MethodHandle" ∧ y.cls ≠ "java/lang/invoke/VarHandle") (hn : (parseMethodDescriptor y.desc).map (fun d => d.parameters.length) = some n) (hl40 : ml ≤ 40) : q_Snd sx own cc nL rt pc (o_cS rk mid ml n (pc + 3)) := by
  intro g p l e R s m args below meth c cells slots Q rm P hC ls st H hok
  obtain ⟨hx, hb, hml, hown, hts, hK, hX, hbl, hN, hJ, hR, hret⟩ := hC
  unfold o_cS
  split
  · rename_i as rest hpop
    obtain ⟨hst, hlen⟩ := q_pop_0 hpop
    refine q_callSp rfl (fun hg => by rw [hi]; exact (q_gd hg).1) hok hst (fun hg r hm Hh locs lsA hl hP hS => ?_)
    have hg := (q_gd hg).2
    unfold q_Met at hm
    rw [hi] at hm
    obtain ⟨hr1, hr2, hr3, hr4, hr5, hr6⟩ := hR
    refine ⟨_, va_runSN (host := host) (As := as.map (q_c g)) (rest := rest.map (q_c g)) (n := n) ⟨hx, hb, hml, hown, hts⟩ hm ⟨⟨⟨hr1, hr2, hr3, by omega, pay_in hts (q_ws_good hi h5), q_ws_code hi⟩, hts _ h5, hts _ h3, hy, fun sig h => ?_, va_Nw.use rfl (hN _ h1)⟩, hts _ h2, trivial⟩ ⟨q_blind g sx _, fun U hU hW => ⟨rfl, q_pre hK hX hbl hN hJ hP hS hU hW⟩⟩ rfl (by simp [hlen]) hl.1 ?_ ?_ hd ⟨by omega, by omega⟩⟩
    · rw [h] at hn
      exact (Option.some.inj hn).symm
    · show (st.map (q_c g)) = _
      rw [hst, List.map_append, List.map_reverse]
    · show 2 * 0 + _ ≤ 8
      rw [q_cats_eq]; omega
  · exact trivial
theorem s_cV {sx : QX} {own : String} {cc : ByteArray} {nL : Nat} {rt : Option FieldType} {pc : Nat} {rk ci mid n i : Nat} {T : u_T} {N : Nat} {y : MethodName} {bytes : ByteArray} {ml : Nat} {ret : Option FieldType} (hi : q_inf mid = (y, (bytes, (ml, ret)))) (hd : decode cc pc = .ok (.invokevirtual i, 3)) (hc : vwCl[ci]? = some (y.cls, T, N)) (h1 : Cond.methodLink own i y ∈ q_tw) (h2 : Cond.instanceMethod y ∈ q_tw) (h4 : Cond.selects y.cls y y ∈ q_tw) (h3 : Cond.initialized y.cls ∈ q_tw) (h5 : Cond.code y bytes ml ret ∈ q_tw) (hy : y.cls ≠ "java/lang/invoke/MethodHandle" ∧ y.cls ≠ "java/lang/invoke/VarHandle") (hn : (parseMethodDescriptor y.desc).map (fun d => d.parameters.length) = some n) (hl40 : ml ≤ 40) : q_Snd sx own cc nL rt pc (o_cV rk ci mid ml (n + 1) (pc + 3)) := by
  intro g p l e R s m args below meth c cells slots Q rm P hC ls st H hok
  obtain ⟨hx, hb, hml, hown, hts, hK, hX, hbl, hN, hJ, hR, hret⟩ := hC
  unfold o_cV
  split
  · rename_i k a as rest hpop
    obtain ⟨hst, hlen⟩ := q_pop_0 hpop
    refine q_callSp rfl (fun hg => by rw [hi]; exact (q_gd (q_gd0 hg).2).1) hok hst (fun hg r hm Hh locs lsA hl hP hS => ?_)
    cases hk : Nat.beq (q_cio k) ci with
    | false => rw [hk] at hg; cases hg
    | true =>
      rw [hk] at hg
      have hk1 : q_cio k = ci := Nat.eq_of_beq_eq_true hk
      have hci : ci < 8 := (List.getElem?_eq_some_iff.mp hc).1
      obtain ⟨hk2, hk3⟩ := q_cio_lt (by omega) hk1
      have hva : q_vd (.inr (.inr (k, a))) := hok.2 _ (by rw [show st = _ from hst]; simp)
      obtain ⟨hp, hsh⟩ := q_vd_at hva hk3 (by omega)
      have hcell := (q_wd_get g H hp).trans (by rw [q_en_obj hsh (by omega), hk1])
      have hg := (q_gd hg).2
      unfold q_Met at hm
      rw [hi] at hm
      obtain ⟨hr1, hr2, hr3, hr4, hr5, hr6⟩ := hR
      have hcv : ((.inr (.inr (k, a)) :: as : List QV)).map (q_c g) = Value.ref (q_ad g a) :: as.map (q_c g) := by
        show q_c g (.inr (.inr (k, a))) :: as.map (q_c g) = _
        rw [q_c_ref hk3]
      refine ⟨_, va_runV (C := y.cls) (b := q_ad g a) (As := as.map (q_c g)) (rest := rest.map (q_c g)) (n := n) ⟨hx, hb, hml, hown, hts⟩ hm ⟨⟨hr1, hr2, hr3, by omega, pay_in hts (q_ws_good hi h5), q_ws_code hi, hts _ h5, hts _ h3, hy, fun sig h => ?_, hts _ h1⟩, hts _ h2, hts _ h4⟩ ⟨q_blind g sx _, va_recv hK hP hc hcell, fun U hU hW => ⟨congrArg List.toArray hcv.symm, q_pre hK hX hbl hN hJ hP hS hU hW⟩⟩ rfl (by simp at hlen; simp [hlen]) hl.1 ?_ ?_ hd ⟨by omega, by omega⟩⟩
      · rw [h] at hn
        exact (Option.some.inj hn).symm
      · show (st.map (q_c g)) = _
        rw [hst, List.map_append, List.map_reverse, hcv]
        simp
      · show 2 * 0 + _ ≤ 8
        rw [q_cats_eq]; omega
  · exact trivial
theorem s_max {sx : QX} {own : String} {cc : ByteArray} {nL : Nat} {rt : Option FieldType} {pc : Nat} {i : Nat} (hd : decode cc pc = .ok (.invokestatic i, 3)) (h1 : Cond.methodLink own i Lib.Math.max.name ∈ q_tw) (h2 : Cond.static Lib.Math.max.name ∈ q_tw) (h3 : Cond.initialized "java/lang/Math" ∈ q_tw) (h5 : Cond.code Lib.Math.max.name Lib.Math.max.code 2 (some .int) ∈ q_tw) : q_Snd sx own cc nL rt pc (o_max (pc + 3)) := by
  intro g p l e R s m args below meth c cells slots Q rm P hC ls st H hok
  obtain ⟨hx, hb, hml, hown, hts, hK, hX, hbl, hN, hJ, hR, hret⟩ := hC
  unfold o_max
  split
  · rename_i y x st
    intro hg
    have hg := Nat.le_of_ble_eq_true hg
    obtain ⟨hr1, hr2, hr3, hr4, hr5, hr6⟩ := hR
    refine ⟨⟨hok.1, q_okS_cons (q_vI _) (q_okS_tl (q_okS_tl hok.2))⟩, fun kk Hh locs lsA hl hP hS => ?_⟩
    exact va_mmax hx hb (hml.trans hl.1.symm) hown (hts _ h1) (hts _ h2) (hts _ h3) (hts _ h5) (by omega) (by rw [q_cats_eq]; omega) hr5 hr6 hd (kk Hh locs lsA hl hP hS)
  · exact trivial
end
section
/-! the soundness of a run -/
def q_room (d : Nat) : Room := { frames := d, cells := 0, slots := 0, locals := 60 * d }
def q_TB (sx : QX) (tb : QT) : Prop := ∀ mid pc o, tb mid pc = some o → q_Snd sx (q_inf mid).1.cls (q_inf mid).2.1 (q_inf mid).2.2.1 (q_inf mid).2.2.2 pc o
theorem q_ok_cut {kp : QK} {mid : Nat} {t : QS} (h : q_ok t) : q_ok (q_cut kp mid t) := by
  unfold q_cut
  split
  · exact ⟨fun q hq => h.1 q (q_kp_mem hq), h.2⟩
  · exact h
theorem q_W_cut {g : QG} {p : Program} {l : Launch} {e : Env} {R : Room} {s : State} {m : MethodId} {args : Array Value} {below : List Frame} {meth : Method} {c : Code} {cells slots : Nat} {Q : State → Prop} {nL : Nat} {kp : QK} {mid : Nat} {t : QS} (h : q_W g p l e R s m args below meth c cells slots Q nL (q_cut kp mid t)) : q_W g p l e R s m args below meth c cells slots Q nL t := by
  intro Hh locs lsA hl hP hS
  unfold q_cut at h
  split at h
  · refine h Hh locs lsA (q_has_sub hl fun q hq => ?_) hP hS
    obtain ⟨r, hr, rfl⟩ := List.mem_map.mp hq
    exact List.mem_map.mpr ⟨r, q_kp_mem hr, rfl⟩
  · exact h Hh locs lsA hl hP hS
/-- from what the instructions say to what a run says: a run in a frame, its callees met -/
theorem q_run_ok {sx : QX} {g : QG} {p : Program} {l : Launch} {e : Env} {R : Room} {s : State} {m : MethodId} {args : Array Value} {below : List Frame} {meth : Method} {c : Code} {cells slots : Nat} {Q : State → Prop} {nL : Nat} {rm : Room} {P : QR → Prop} {r : QR} {t : QS} {Kc : QE → Option QR} {K : QS → Option QR} (hPr : P r) (hMc : ∀ f z, q_okE f → Kc f = some z → q_Met g sx l rm f z) (hK : ∀ u, q_ok u → K u = some r → q_W g p l e R s m args below meth c cells slots Q nL u) :
    ∀ (N : QN), q_Sp sx g p l e R s m args below meth c cells slots Q nL rm P t N → q_run Kc K N = some r → q_W g p l e R s m args below meth c cells slots Q nL t
  | none, _, h => by cases h
  | some (.inl (b, u)), hs, h => by
    obtain ⟨rfl, h2⟩ := q_cond h
    obtain ⟨h3, h4⟩ := hs rfl
    exact h4 (hK _ h3 h2)
  | some (.inr (.inl (b, (u, v)))), hs, h => by
    obtain ⟨h3, h4, h5⟩ := hs
    cases b with
    | true => exact h5 (fun _ => hK u (h3 rfl) h) (fun q => by cases q)
    | false => exact h5 (fun q => by cases q) (fun _ => hK v (h4 rfl) h)
  | some (.inr (.inr (.inl (b, z)))), hs, h => by
    obtain ⟨rfl, h2⟩ := q_cond h
    cases h2
    exact (hs rfl).2 hPr
  | some (.inr (.inr (.inr (.inl (b, (f, .inl k)))))), hs, h => by
    obtain ⟨rfl, h2⟩ := q_cond h
    obtain ⟨H', h3, h4⟩ := q_cV_some h2
    obtain ⟨h5, h6⟩ := hs rfl
    obtain ⟨h7, h8⟩ := h6 H'
    exact h8 (hMc _ _ h5 h3) (hK _ h7 h4)
  | some (.inr (.inr (.inr (.inl (b, (f, .inr (.inl k))))))), hs, h => by
    obtain ⟨rfl, h2⟩ := q_cond h
    obtain ⟨x, H', h3, h4⟩ := q_cI_some h2
    obtain ⟨h5, h6⟩ := hs rfl
    obtain ⟨h7, h8⟩ := h6 x H'
    exact h8 (hMc _ _ h5 h3) (hK _ h7 h4)
  | some (.inr (.inr (.inr (.inl (b, (f, .inr (.inr (k0, k5)))))))), hs, h => by
    obtain ⟨rfl, h2⟩ := q_cond h
    obtain ⟨h5, h6, h6'⟩ := hs rfl
    rcases q_cR_some h2 with ⟨y, H', h3, h4⟩ | ⟨y, H', h3, h4⟩
    · obtain ⟨h7, h8⟩ := h6 y H'
      exact h8 (hMc _ _ h5 h3) (hK _ h7 h4)
    · obtain ⟨h7, h8⟩ := h6' y H'
      exact h8 (hMc _ _ h5 h3) (fun hv => hK _ (h7 hv) h4)
  | some (.inr (.inr (.inr (.inr (x, (l9, d)))))), hs, h => by
    have h : q_sw K x d l9 = some r := h
    rw [q_sw_eq] at h
    obtain ⟨h3, h4⟩ := hs
    exact h4 (hK _ h3 h)
theorem q_plain : ∀ mid, plainName (q_inf mid).1.cls = true := by
  intro mid
  rcases Nat.lt_or_ge mid 178 with h | h
  · have : ∀ k, k < 178 → plainName (q_inf k).1.cls = true := by decide +kernel
    exact this mid h
  · have e : q_inf mid = (yL_law, (cL_law, (4, some .boolean))) := by
      unfold q_inf
      rw [List.getD_eq_getElem?_getD, List.getElem?_eq_none (show q_infl.length ≤ mid from h)]
      rfl
    rw [e]
    decide +kernel
theorem q_sound (sx : QX) (tb : QT) (kp : QK) (hTB : q_TB sx tb) (g : QG) (hJ : q_inj g) (l : Launch) : ∀ (n d mid : Nat) (t : QS) (r : QR), q_ev tb kp n (d + 1) mid t = some r → q_ok t →
    ∀ (p : Program) (e : Env) (R : Room) (s : State) (m : MethodId) (args : Array Value) (below : List Frame) (meth : Method) (c : Code) (cells slots : Nat) (Q : State → Prop) (P : QR → Prop), q_Cx sx g p l e R s m args below meth c cells slots Q (q_inf mid).1.cls (q_inf mid).2.1 (q_inf mid).2.2.1 (q_inf mid).2.2.2 (q_room d) P → P r → q_W g p l e R s m args below meth c cells slots Q (q_inf mid).2.2.1 t := by
  intro n
  induction n with
  | zero => intro d mid t r h; cases h
  | succ n ih =>
    intro d mid t r h hok p e R s m args below meth c cells slots Q P hC hPr
    have h : q_step tb (fun e => q_ev tb kp n d e.1 (0, (q_la 0 e.2.1, ([], e.2.2)))) (fun u => q_ev tb kp n (d + 1) mid (q_cut kp mid u)) mid t = some r := h
    unfold q_step at h
    split at h
    · rename_i o ho
      have hs := hTB _ _ _ ho g p l e R s m args below meth c cells slots Q (q_room d) P hC t.2.1 t.2.2.1 t.2.2.2 hok
      refine q_run_ok (rm := q_room d) (nL := (q_inf mid).2.2.1) hPr (fun f z hf hz => ?_) (fun u hu hz => ?_) _ hs h
      · cases d with
        | zero => cases n <;> cases hz
        | succ d =>
          have hok0 : q_ok (0, (q_la 0 f.2.1, ([], f.2.2))) := ⟨q_la_ok 0 _ hf.1, q_okS_nil⟩
          have key := ih d f.1 _ z hz hok0
          unfold q_Met
          refine Met.ofW (cc := (q_inf f.1).2.1) (maxL := (q_inf f.1).2.2.1) (ret := (q_inf f.1).2.2.2) (q_plain f.1) rfl ?_
          intro p e s m args below meth c s₁ B hml hv
          obtain ⟨rfl, hP, hK, hX, hN⟩ := hv
          have hts := atoms_spec (ws := q_ws f.1) B.pre
          have hX' := hX
          obtain ⟨scr, hscr, -⟩ := hX'
          have hbl : q_ad g 183 < s.heap.size := (Array.getElem?_eq_some_iff.mp hscr).1
          have W0 := key p e (headSpec (q_ws f.1) (q_room (d + 1))).room s m (f.2.1.map (q_c g)).toArray below meth c 0 0 (MQ below (q_Qc g z) (f.2.1.map (q_c g)).toArray s 0 0 (q_A g)) (fun r => r = z)
            ⟨B.exec, B.bytes, hml, findClass_of_methodNamed B.named, fun w hw => hts w (List.mem_cons_of_mem _ hw), hK, hX, hbl, hN, hJ, ⟨rfl, rfl, Nat.le_refl _, by show 60 + 60 * d ≤ 60 * (d + 1); omega, Nat.zero_le _, Nat.zero_le _⟩,
              ⟨fun pc x H Hh locs lsA ty hrt hn hd hPz hPh hS => ?_, fun pc H Hh locs lsA hrt hd hPz hPh hS => ?_, fun pc k q H Hh locs lsA C hrt hd hvd hPz hPh hS => ?_⟩⟩ rfl
          · have hl := lv_entry (f.2.1.map (q_c g)) (n := (q_inf f.1).2.2.1) ?_
            · rw [lg_entry_eq]
              refine W0 s.heap [] _ ?_ hP va_S.rf
              rw [q_la_map]
              exact hl
            · rw [q_sl_len]
              exact hf.2
          · subst hPz
            exact W.zret B.exec B.bytes (B.returns.trans hrt) hn (fun t ht _ => ⟨⟨fun v hv => by cases hv; exact trivial, rfl, by rw [ht]; exact hPh⟩, hS.F ht⟩) hS.2.2 hd B.notSynchronized
          · subst hPz
            exact W.vret B.exec B.bytes (B.returns.trans hrt) (fun t ht _ => ⟨⟨(fun v hv => by cases hv), rfl, by rw [ht]; exact hPh⟩, hS.F ht⟩) hS.2.2 hd B.notSynchronized
          · subst hPz
            refine W.aret B.exec B.bytes (B.returns.trans hrt) (Or.inl ⟨C, rfl⟩) ?_ (fun t ht _ => ⟨⟨fun v hv => by cases hv; exact hvd, rfl, by rw [ht]; exact hPh⟩, hS.F ht⟩) hS.2.2 hd B.notSynchronized
            cases k with
            | zero => exact Or.inl rfl
            | succ k => exact Or.inr ⟨_, rfl⟩
      · exact q_W_cut (ih d mid _ r hz (q_ok_cut hu) p e R s m args below meth c cells slots Q P hC hPr)
    · cases h
end
section
theorem inl_X0 : ∀ k, k < 12 → u_lay RX0 TX0 k ∈ q_tw := fun k hk => match k, hk with
  | 0, _ => q_w1 (i := 82) rfl rfl
  | 1, _ => q_w1 (i := 84) rfl rfl
  | 2, _ => q_w1 (i := 86) rfl rfl
  | 3, _ => q_w1 (i := 88) rfl rfl
  | 4, _ => q_w1 (i := 90) rfl rfl
  | 5, _ => q_w1 (i := 92) rfl rfl
  | 6, _ => q_w1 (i := 94) rfl rfl
  | 7, _ => q_w1 (i := 96) rfl rfl
  | 8, _ => q_w1 (i := 98) rfl rfl
  | 9, _ => q_w1 (i := 100) rfl rfl
  | 10, _ => q_w1 (i := 102) rfl rfl
  | 11, _ => q_w1 (i := 104) rfl rfl
  | k + 12, h => absurd h (by omega)
theorem in_X0 : ∀ w ∈ u_ws RX0 TX0 12, w ∈ q_tw := fun w hw => by
  obtain ⟨k, hk, rfl⟩ := List.mem_map.mp hw
  exact inl_X0 k (List.mem_range.mp hk)
theorem n_X0 : ∀ k, q_cio k = 0 → q_nf k = 12 := fun k h => by
  obtain ⟨h1, h2⟩ := q_cio_lt (by omega) h
  have : ∀ k, k < 10 → q_cio k = 0 → q_nf k = 12 := by decide +kernel
  exact this k h1 h
theorem inl_X1 : ∀ k, k < 5 → u_lay RX1 TX1 k ∈ q_tw := fun k hk => match k, hk with
  | 0, _ => q_w1 (i := 198) rfl rfl
  | 1, _ => q_w1 (i := 200) rfl rfl
  | 2, _ => q_w1 (i := 202) rfl rfl
  | 3, _ => q_w1 (i := 204) rfl rfl
  | 4, _ => q_w1 (i := 206) rfl rfl
  | k + 5, h => absurd h (by omega)
theorem in_X1 : ∀ w ∈ u_ws RX1 TX1 5, w ∈ q_tw := fun w hw => by
  obtain ⟨k, hk, rfl⟩ := List.mem_map.mp hw
  exact inl_X1 k (List.mem_range.mp hk)
theorem n_X1 : ∀ k, q_cio k = 1 → q_nf k = 5 := fun k h => by
  obtain ⟨h1, h2⟩ := q_cio_lt (by omega) h
  have : ∀ k, k < 10 → q_cio k = 1 → q_nf k = 5 := by decide +kernel
  exact this k h1 h
theorem inl_X2 : ∀ k, k < 3 → u_lay RX2 TX2 k ∈ q_tw := fun k hk => match k, hk with
  | 0, _ => q_w1 (i := 161) rfl rfl
  | 1, _ => q_w1 (i := 163) rfl rfl
  | 2, _ => q_w1 (i := 165) rfl rfl
  | k + 3, h => absurd h (by omega)
theorem in_X2 : ∀ w ∈ u_ws RX2 TX2 3, w ∈ q_tw := fun w hw => by
  obtain ⟨k, hk, rfl⟩ := List.mem_map.mp hw
  exact inl_X2 k (List.mem_range.mp hk)
theorem n_X2 : ∀ k, q_cio k = 2 → q_nf k = 3 := fun k h => by
  obtain ⟨h1, h2⟩ := q_cio_lt (by omega) h
  have : ∀ k, k < 10 → q_cio k = 2 → q_nf k = 3 := by decide +kernel
  exact this k h1 h
theorem inl_X3 : ∀ k, k < 8 → u_lay RX3 TX3 k ∈ q_tw := fun k hk => match k, hk with
  | 0, _ => q_w1 (i := 131) rfl rfl
  | 1, _ => q_w1 (i := 133) rfl rfl
  | 2, _ => q_w1 (i := 135) rfl rfl
  | 3, _ => q_w1 (i := 137) rfl rfl
  | 4, _ => q_w1 (i := 139) rfl rfl
  | 5, _ => q_w1 (i := 141) rfl rfl
  | 6, _ => q_w1 (i := 143) rfl rfl
  | 7, _ => q_w1 (i := 145) rfl rfl
  | k + 8, h => absurd h (by omega)
theorem in_X3 : ∀ w ∈ u_ws RX3 TX3 8, w ∈ q_tw := fun w hw => by
  obtain ⟨k, hk, rfl⟩ := List.mem_map.mp hw
  exact inl_X3 k (List.mem_range.mp hk)
theorem n_X3 : ∀ k, q_cio k = 3 → q_nf k = 8 := fun k h => by
  obtain ⟨h1, h2⟩ := q_cio_lt (by omega) h
  have : ∀ k, k < 10 → q_cio k = 3 → q_nf k = 8 := by decide +kernel
  exact this k h1 h
theorem inl_X4 : ∀ k, k < 2 → u_lay RX4 TX4 k ∈ q_tw := fun k hk => match k, hk with
  | 0, _ => q_w1 (i := 177) rfl rfl
  | 1, _ => q_w1 (i := 179) rfl rfl
  | k + 2, h => absurd h (by omega)
theorem in_X4 : ∀ w ∈ u_ws RX4 TX4 2, w ∈ q_tw := fun w hw => by
  obtain ⟨k, hk, rfl⟩ := List.mem_map.mp hw
  exact inl_X4 k (List.mem_range.mp hk)
theorem n_X4 : ∀ k, q_cio k = 4 → q_nf k = 2 := fun k h => by
  obtain ⟨h1, h2⟩ := q_cio_lt (by omega) h
  have : ∀ k, k < 10 → q_cio k = 4 → q_nf k = 2 := by decide +kernel
  exact this k h1 h
theorem inl_X5 : ∀ k, k < 4 → u_lay RX5 TX5 k ∈ q_tw := fun k hk => match k, hk with
  | 0, _ => q_w1 (i := 34) rfl rfl
  | 1, _ => q_w1 (i := 36) rfl rfl
  | 2, _ => q_w1 (i := 38) rfl rfl
  | 3, _ => q_w1 (i := 40) rfl rfl
  | k + 4, h => absurd h (by omega)
theorem in_X5 : ∀ w ∈ u_ws RX5 TX5 4, w ∈ q_tw := fun w hw => by
  obtain ⟨k, hk, rfl⟩ := List.mem_map.mp hw
  exact inl_X5 k (List.mem_range.mp hk)
theorem n_X5 : ∀ k, q_cio k = 5 → q_nf k = 4 := fun k h => by
  obtain ⟨h1, h2⟩ := q_cio_lt (by omega) h
  have : ∀ k, k < 10 → q_cio k = 5 → q_nf k = 4 := by decide +kernel
  exact this k h1 h
theorem inl_X6 : ∀ k, k < 9 → u_lay RX6 TX6 k ∈ q_tw := fun k hk => match k, hk with
  | 0, _ => q_w2 (i := 126) rfl rfl
  | 1, _ => q_w2 (i := 128) rfl rfl
  | 2, _ => q_w2 (i := 130) rfl rfl
  | 3, _ => q_w2 (i := 132) rfl rfl
  | 4, _ => q_w2 (i := 134) rfl rfl
  | 5, _ => q_w2 (i := 136) rfl rfl
  | 6, _ => q_w2 (i := 138) rfl rfl
  | 7, _ => q_w2 (i := 140) rfl rfl
  | 8, _ => q_w2 (i := 142) rfl rfl
  | k + 9, h => absurd h (by omega)
theorem in_X6 : ∀ w ∈ u_ws RX6 TX6 9, w ∈ q_tw := fun w hw => by
  obtain ⟨k, hk, rfl⟩ := List.mem_map.mp hw
  exact inl_X6 k (List.mem_range.mp hk)
theorem n_X6 : ∀ k, q_cio k = 6 → q_nf k = 9 := fun k h => by
  obtain ⟨h1, h2⟩ := q_cio_lt (by omega) h
  have : ∀ k, k < 10 → q_cio k = 6 → q_nf k = 9 := by decide +kernel
  exact this k h1 h
theorem inl_X7 : ∀ k, k < 30 → u_lay RX7 TX7 k ∈ q_tw := fun k hk => match k, hk with
  | 0, _ => q_w4 (i := 59) rfl rfl
  | 1, _ => q_w4 (i := 61) rfl rfl
  | 2, _ => q_w4 (i := 63) rfl rfl
  | 3, _ => q_w4 (i := 65) rfl rfl
  | 4, _ => q_w4 (i := 67) rfl rfl
  | 5, _ => q_w4 (i := 69) rfl rfl
  | 6, _ => q_w4 (i := 71) rfl rfl
  | 7, _ => q_w4 (i := 73) rfl rfl
  | 8, _ => q_w4 (i := 75) rfl rfl
  | 9, _ => q_w4 (i := 77) rfl rfl
  | 10, _ => q_w4 (i := 79) rfl rfl
  | 11, _ => q_w4 (i := 81) rfl rfl
  | 12, _ => q_w4 (i := 83) rfl rfl
  | 13, _ => q_w4 (i := 85) rfl rfl
  | 14, _ => q_w4 (i := 87) rfl rfl
  | 15, _ => q_w4 (i := 89) rfl rfl
  | 16, _ => q_w4 (i := 91) rfl rfl
  | 17, _ => q_w4 (i := 93) rfl rfl
  | 18, _ => q_w4 (i := 95) rfl rfl
  | 19, _ => q_w4 (i := 97) rfl rfl
  | 20, _ => q_w4 (i := 99) rfl rfl
  | 21, _ => q_w4 (i := 101) rfl rfl
  | 22, _ => q_w4 (i := 103) rfl rfl
  | 23, _ => q_w4 (i := 105) rfl rfl
  | 24, _ => q_w4 (i := 107) rfl rfl
  | 25, _ => q_w4 (i := 109) rfl rfl
  | 26, _ => q_w4 (i := 111) rfl rfl
  | 27, _ => q_w4 (i := 113) rfl rfl
  | 28, _ => q_w4 (i := 115) rfl rfl
  | 29, _ => q_w4 (i := 117) rfl rfl
  | k + 30, h => absurd h (by omega)
theorem in_X7 : ∀ w ∈ u_ws RX7 TX7 30, w ∈ q_tw := fun w hw => by
  obtain ⟨k, hk, rfl⟩ := List.mem_map.mp hw
  exact inl_X7 k (List.mem_range.mp hk)
theorem n_X7 : ∀ k, q_cio k = 7 → q_nf k = 30 := fun k h => by
  obtain ⟨h1, h2⟩ := q_cio_lt (by omega) h
  have : ∀ k, k < 10 → q_cio k = 7 → q_nf k = 30 := by decide +kernel
  exact this k h1 h
def q_look : List (Nat × QO) → Nat → Option QO
  | [], _ => none
  | (k, o) :: l, pc => cond (Nat.beq k pc) (some o) (q_look l pc)
theorem q_look_all {sx : QX} {own : String} {cc : ByteArray} {nL : Nat} {rt : Option FieldType} {l : List (Nat × QO)} {pc : Nat} (h : ∀ q ∈ l, q_Snd sx own cc nL rt q.1 q.2) : ∀ o, q_look l pc = some o → q_Snd sx own cc nL rt pc o := by
  induction l with
  | nil => intro o h; cases h
  | cons q l ih =>
    obtain ⟨k, z⟩ := q
    intro o ho
    have ho : cond (Nat.beq k pc) (some z) (q_look l pc) = some o := ho
    cases hk : Nat.beq k pc with
    | true =>
      rw [hk] at ho
      cases ho
      rw [← Nat.eq_of_beq_eq_true hk]
      exact h _ List.mem_cons_self
    | false =>
      rw [hk] at ho
      exact ih (fun q hq => h q (List.mem_cons_of_mem _ hq)) o ho
theorem q_cb {P : QO → Prop} {b : Bool} {x y : Option QO} (h1 : ∀ o, x = some o → P o) (h2 : ∀ o, y = some o → P o) : ∀ o, cond b x y = some o → P o := by
  cases b
  · exact h2
  · exact h1
theorem k_0_0 : Cond.selects RX6 yX6_layOut yX6_layOut ∈ q_tw := q_w0 (i := 0) rfl rfl
theorem k_0_1 : Cond.selects RX5 yX5_readItem yX5_readItem ∈ q_tw := q_w0 (i := 1) rfl rfl
theorem k_0_2 : Cond.selects RX5 yX5_letterAt yX5_letterAt ∈ q_tw := q_w0 (i := 2) rfl rfl
theorem k_0_3 : Cond.selects RX5 yX5_readNumbers yX5_readNumbers ∈ q_tw := q_w0 (i := 3) rfl rfl
theorem k_0_4 : Cond.selects RX5 yX5_readNumber yX5_readNumber ∈ q_tw := q_w0 (i := 4) rfl rfl
theorem k_0_5 : Cond.selects RX0 yX0_plainWorth yX0_plainWorth ∈ q_tw := q_w0 (i := 5) rfl rfl
theorem k_0_6 : Cond.selects RX0 yX0_spokenWorth yX0_spokenWorth ∈ q_tw := q_w0 (i := 6) rfl rfl
theorem k_0_7 : Cond.selects RX6 yX6_isBlock yX6_isBlock ∈ q_tw := q_w0 (i := 7) rfl rfl
theorem k_0_8 : Cond.selects RX6 yX6_isWord yX6_isWord ∈ q_tw := q_w0 (i := 8) rfl rfl
theorem k_0_9 : Cond.selects RX6 yX6_isSpeaker yX6_isSpeaker ∈ q_tw := q_w0 (i := 9) rfl rfl
theorem k_0_10 : Cond.selects RX6 yX6_isSaying yX6_isSaying ∈ q_tw := q_w0 (i := 10) rfl rfl
theorem k_0_11 : Cond.selects RX3 yX3_hearsThrough yX3_hearsThrough ∈ q_tw := q_w0 (i := 11) rfl rfl
theorem k_0_12 : Cond.selects RX3 yX3_soften yX3_soften ∈ q_tw := q_w0 (i := 12) rfl rfl
theorem k_0_13 : Cond.selects RX3 yX3_belies yX3_belies ∈ q_tw := q_w0 (i := 13) rfl rfl
theorem k_0_14 : Cond.selects RX4 yX4_shift yX4_shift ∈ q_tw := q_w0 (i := 14) rfl rfl
theorem k_0_15 : Cond.selects RX3 yX3_dearestWord yX3_dearestWord ∈ q_tw := q_w0 (i := 15) rfl rfl
theorem k_0_16 : Cond.selects RX3 yX3_harmOf yX3_harmOf ∈ q_tw := q_w0 (i := 16) rfl rfl
theorem k_0_17 : Cond.selects RX3 yX3_explainsOne yX3_explainsOne ∈ q_tw := q_w0 (i := 17) rfl rfl
theorem k_0_18 : Cond.selects RX7 yX7_starts yX7_starts ∈ q_tw := q_w0 (i := 18) rfl rfl
theorem k_0_19 : Cond.selects RX7 yX7_addsBlock yX7_addsBlock ∈ q_tw := q_w0 (i := 19) rfl rfl
theorem k_0_20 : Cond.selects RX7 yX7_addsWord yX7_addsWord ∈ q_tw := q_w0 (i := 20) rfl rfl
theorem k_0_21 : Cond.selects RX7 yX7_addsSpeaker yX7_addsSpeaker ∈ q_tw := q_w0 (i := 21) rfl rfl
theorem k_0_22 : Cond.selects RX7 yX7_begins yX7_begins ∈ q_tw := q_w0 (i := 22) rfl rfl
theorem k_0_23 : Cond.selects RX7 yX7_faultOf yX7_faultOf ∈ q_tw := q_w0 (i := 23) rfl rfl
theorem k_0_24 : Cond.selects RX7 yX7_takesItem yX7_takesItem ∈ q_tw := q_w0 (i := 24) rfl rfl
theorem k_0_25 : Cond.selects RX7 yX7_letterAt yX7_letterAt ∈ q_tw := q_w0 (i := 25) rfl rfl
theorem k_0_26 : Cond.selects RX7 yX7_takesBlock yX7_takesBlock ∈ q_tw := q_w0 (i := 26) rfl rfl
theorem k_0_27 : Cond.selects RX7 yX7_takesNumber yX7_takesNumber ∈ q_tw := q_w0 (i := 27) rfl rfl
theorem k_0_28 : Cond.selects RX7 yX7_takesWord yX7_takesWord ∈ q_tw := q_w0 (i := 28) rfl rfl
theorem k_0_29 : Cond.selects RX7 yX7_takesSpeaker yX7_takesSpeaker ∈ q_tw := q_w0 (i := 29) rfl rfl
theorem k_0_30 : Cond.selects RX7 yX7_takesFrost yX7_takesFrost ∈ q_tw := q_w0 (i := 30) rfl rfl
theorem k_0_31 : Cond.selects RX7 yX7_takesPromise yX7_takesPromise ∈ q_tw := q_w0 (i := 31) rfl rfl
theorem k_0_32 : Cond.selects RX7 yX7_isBlock yX7_isBlock ∈ q_tw := q_w0 (i := 32) rfl rfl
theorem k_0_33 : Cond.selects RX7 yX7_isWord yX7_isWord ∈ q_tw := q_w0 (i := 33) rfl rfl
theorem k_0_34 : Cond.selects RX7 yX7_isSpeaker yX7_isSpeaker ∈ q_tw := q_w0 (i := 34) rfl rfl
theorem k_0_35 : Cond.selects RX7 yX7_worthOf yX7_worthOf ∈ q_tw := q_w0 (i := 35) rfl rfl
theorem k_0_36 : Cond.selects RX7 yX7_spoken yX7_spoken ∈ q_tw := q_w0 (i := 36) rfl rfl
theorem k_0_37 : Cond.selects RX7 yX7_byKind yX7_byKind ∈ q_tw := q_w0 (i := 37) rfl rfl
theorem k_0_38 : Cond.selects RX7 yX7_heardOf yX7_heardOf ∈ q_tw := q_w0 (i := 38) rfl rfl
theorem k_0_39 : Cond.selects RX7 yX7_canSay yX7_canSay ∈ q_tw := q_w0 (i := 39) rfl rfl
theorem k_0_40 : Cond.selects RX7 yX7_inBed yX7_inBed ∈ q_tw := q_w0 (i := 40) rfl rfl
theorem k_0_41 : Cond.selects RX7 yX7_minds yX7_minds ∈ q_tw := q_w0 (i := 41) rfl rfl
theorem k_0_42 : Cond.selects RX7 yX7_copy yX7_copy ∈ q_tw := q_w0 (i := 42) rfl rfl
theorem k_0_43 : Cond.selects RX7 yX7_says yX7_says ∈ q_tw := q_w0 (i := 43) rfl rfl
theorem k_0_44 : Cond.selects RX7 yX7_hears yX7_hears ∈ q_tw := q_w0 (i := 44) rfl rfl
theorem k_0_45 : Cond.selects RX7 yX7_comes yX7_comes ∈ q_tw := q_w0 (i := 45) rfl rfl
theorem k_0_46 : Cond.selects RX7 yX7_takesFor yX7_takesFor ∈ q_tw := q_w0 (i := 46) rfl rfl
theorem k_0_47 : Cond.selects RX7 yX7_isElse yX7_isElse ∈ q_tw := q_w0 (i := 47) rfl rfl
theorem k_0_48 : Cond.selects RX7 yX7_passes yX7_passes ∈ q_tw := q_w0 (i := 48) rfl rfl
theorem k_0_49 : Cond.selects RX7 yX7_bringsOut yX7_bringsOut ∈ q_tw := q_w0 (i := 49) rfl rfl
theorem k_0_50 : Cond.selects RX7 yX7_bestOf yX7_bestOf ∈ q_tw := q_w0 (i := 50) rfl rfl
theorem k_0_51 : Cond.selects RX7 yX7_bestOrder yX7_bestOrder ∈ q_tw := q_w0 (i := 51) rfl rfl
theorem k_0_52 : Cond.selects RX7 yX7_bedOf yX7_bedOf ∈ q_tw := q_w0 (i := 52) rfl rfl
theorem k_0_53 : Cond.selects RX7 yX7_asks yX7_asks ∈ q_tw := q_w0 (i := 53) rfl rfl
theorem k_0_54 : Cond.selects RX7 yX7_tries yX7_tries ∈ q_tw := q_w0 (i := 54) rfl rfl
theorem k_0_55 : Cond.selects RX7 yX7_bestWord yX7_bestWord ∈ q_tw := q_w0 (i := 55) rfl rfl
theorem k_0_56 : Cond.selects RX7 yX7_harmOf yX7_harmOf ∈ q_tw := q_w0 (i := 56) rfl rfl
theorem k_0_57 : Cond.selects RX7 yX7_lies yX7_lies ∈ q_tw := q_w0 (i := 57) rfl rfl
theorem k_0_58 : Cond.selects RX7 yX7_doesBy yX7_doesBy ∈ q_tw := q_w0 (i := 58) rfl rfl
theorem k_0_59 : Cond.selects RX7 yX7_manyHow yX7_manyHow ∈ q_tw := q_w0 (i := 59) rfl rfl
theorem k_1_1 : Cond.initialized RX6 ∈ q_tw := q_w1 (i := 1) rfl rfl
theorem k_1_2 : Cond.initialized RX5 ∈ q_tw := q_w1 (i := 2) rfl rfl
theorem k_1_3 : Cond.initialized RX0 ∈ q_tw := q_w1 (i := 3) rfl rfl
theorem k_1_4 : Cond.initialized RX3 ∈ q_tw := q_w1 (i := 4) rfl rfl
theorem k_1_5 : Cond.initialized RX2 ∈ q_tw := q_w1 (i := 5) rfl rfl
theorem k_1_6 : Cond.initialized RX4 ∈ q_tw := q_w1 (i := 6) rfl rfl
theorem k_1_7 : Cond.initialized RX1 ∈ q_tw := q_w1 (i := 7) rfl rfl
theorem k_1_12 : Cond.initialized RX7 ∈ q_tw := q_w1 (i := 12) rfl rfl
theorem k_1_13 : Cond.initialized "java/lang/Math" ∈ q_tw := q_w1 (i := 13) rfl rfl
theorem k_1_14 : Cond.initialized RJ6 ∈ q_tw := q_w1 (i := 14) rfl rfl
theorem k_1_29 : Cond.fieldLink RX5 9 RX5 "letters" "[I" ∈ q_tw := q_w1 (i := 29) rfl rfl
theorem k_1_30 : Cond.fieldLink RX5 15 RX5 "numbers" "[I" ∈ q_tw := q_w1 (i := 30) rfl rfl
theorem k_1_31 : Cond.fieldLink RX6 85 RX5 "length" "I" ∈ q_tw := q_w1 (i := 31) rfl rfl
theorem k_1_32 : Cond.fieldLink RX5 18 RX5 "length" "I" ∈ q_tw := q_w1 (i := 32) rfl rfl
theorem k_1_33 : Cond.fieldLink RX5 31 RX5 "place" "I" ∈ q_tw := q_w1 (i := 33) rfl rfl
theorem k_1_50 : Cond.fieldLink RX0 36 RX0 "blocks" "I" ∈ q_tw := q_w1 (i := 50) rfl rfl
theorem k_1_51 : Cond.fieldLink RX1 58 RX0 "blocks" "I" ∈ q_tw := q_w1 (i := 51) rfl rfl
theorem k_1_52 : Cond.fieldLink RX3 58 RX0 "blocks" "I" ∈ q_tw := q_w1 (i := 52) rfl rfl
theorem k_1_53 : Cond.fieldLink RX6 96 RX0 "blocks" "I" ∈ q_tw := q_w1 (i := 53) rfl rfl
theorem k_1_54 : Cond.fieldLink RX0 40 RX0 "words" "I" ∈ q_tw := q_w1 (i := 54) rfl rfl
theorem k_1_55 : Cond.fieldLink RX4 53 RX0 "words" "I" ∈ q_tw := q_w1 (i := 55) rfl rfl
theorem k_1_56 : Cond.fieldLink RX3 122 RX0 "words" "I" ∈ q_tw := q_w1 (i := 56) rfl rfl
theorem k_1_57 : Cond.fieldLink RX6 247 RX0 "words" "I" ∈ q_tw := q_w1 (i := 57) rfl rfl
theorem k_1_58 : Cond.fieldLink RX0 43 RX0 "speakers" "I" ∈ q_tw := q_w1 (i := 58) rfl rfl
theorem k_1_59 : Cond.fieldLink RX4 40 RX0 "speakers" "I" ∈ q_tw := q_w1 (i := 59) rfl rfl
theorem k_1_60 : Cond.fieldLink RX3 61 RX0 "speakers" "I" ∈ q_tw := q_w1 (i := 60) rfl rfl
theorem k_1_61 : Cond.fieldLink RX6 233 RX0 "speakers" "I" ∈ q_tw := q_w1 (i := 61) rfl rfl
theorem k_1_62 : Cond.fieldLink RX0 46 RX0 "chill" "I" ∈ q_tw := q_w1 (i := 62) rfl rfl
theorem k_1_63 : Cond.fieldLink RX0 9 RX0 "blockKinds" "[I" ∈ q_tw := q_w1 (i := 63) rfl rfl
theorem k_1_64 : Cond.fieldLink RX6 103 RX0 "blockKinds" "[I" ∈ q_tw := q_w1 (i := 64) rfl rfl
theorem k_1_65 : Cond.fieldLink RX3 108 RX0 "blockKinds" "[I" ∈ q_tw := q_w1 (i := 65) rfl rfl
theorem k_1_66 : Cond.fieldLink RX0 15 RX0 "needs" "[I" ∈ q_tw := q_w1 (i := 66) rfl rfl
theorem k_1_67 : Cond.fieldLink RX6 111 RX0 "needs" "[I" ∈ q_tw := q_w1 (i := 67) rfl rfl
theorem k_1_68 : Cond.fieldLink RX3 64 RX0 "needs" "[I" ∈ q_tw := q_w1 (i := 68) rfl rfl
theorem k_1_69 : Cond.fieldLink RX0 18 RX0 "wordWorths" "[I" ∈ q_tw := q_w1 (i := 69) rfl rfl
theorem k_1_70 : Cond.fieldLink RX6 126 RX0 "wordWorths" "[I" ∈ q_tw := q_w1 (i := 70) rfl rfl
theorem k_1_71 : Cond.fieldLink RX0 21 RX0 "speakerKinds" "[I" ∈ q_tw := q_w1 (i := 71) rfl rfl
theorem k_1_72 : Cond.fieldLink RX6 132 RX0 "speakerKinds" "[I" ∈ q_tw := q_w1 (i := 72) rfl rfl
theorem k_1_73 : Cond.fieldLink RX0 24 RX0 "dayHours" "[I" ∈ q_tw := q_w1 (i := 73) rfl rfl
theorem k_1_74 : Cond.fieldLink RX3 42 RX0 "dayHours" "[I" ∈ q_tw := q_w1 (i := 74) rfl rfl
theorem k_1_75 : Cond.fieldLink RX6 135 RX0 "dayHours" "[I" ∈ q_tw := q_w1 (i := 75) rfl rfl
theorem k_1_76 : Cond.fieldLink RX0 27 RX0 "firstVows" "[I" ∈ q_tw := q_w1 (i := 76) rfl rfl
theorem k_1_77 : Cond.fieldLink RX3 51 RX0 "firstVows" "[I" ∈ q_tw := q_w1 (i := 77) rfl rfl
theorem k_1_78 : Cond.fieldLink RX0 30 RX0 "plainWorths" "[I" ∈ q_tw := q_w1 (i := 78) rfl rfl
theorem k_1_79 : Cond.fieldLink RX3 144 RX0 "plainWorths" "[I" ∈ q_tw := q_w1 (i := 79) rfl rfl
theorem k_1_80 : Cond.fieldLink RX0 33 RX0 "freshWorths" "[I" ∈ q_tw := q_w1 (i := 80) rfl rfl
theorem k_1_81 : Cond.fieldLink RX3 71 RX0 "freshWorths" "[I" ∈ q_tw := q_w1 (i := 81) rfl rfl
theorem k_1_113 : Cond.fieldLink RX3 30 RX3 "bed" "LStoneApologies$Bed;" ∈ q_tw := q_w1 (i := 113) rfl rfl
theorem k_1_114 : Cond.fieldLink RX4 36 RX3 "bed" "LStoneApologies$Bed;" ∈ q_tw := q_w1 (i := 114) rfl rfl
theorem k_1_115 : Cond.fieldLink RX1 54 RX3 "bed" "LStoneApologies$Bed;" ∈ q_tw := q_w1 (i := 115) rfl rfl
theorem k_1_116 : Cond.fieldLink RX6 291 RX3 "bed" "LStoneApologies$Bed;" ∈ q_tw := q_w1 (i := 116) rfl rfl
theorem k_1_117 : Cond.fieldLink RX3 34 RX3 "day" "I" ∈ q_tw := q_w1 (i := 117) rfl rfl
theorem k_1_118 : Cond.fieldLink RX6 183 RX3 "day" "I" ∈ q_tw := q_w1 (i := 118) rfl rfl
theorem k_1_119 : Cond.fieldLink RX3 9 RX3 "softness" "[I" ∈ q_tw := q_w1 (i := 119) rfl rfl
theorem k_1_120 : Cond.fieldLink RX4 72 RX3 "softness" "[I" ∈ q_tw := q_w1 (i := 120) rfl rfl
theorem k_1_121 : Cond.fieldLink RX6 114 RX3 "softness" "[I" ∈ q_tw := q_w1 (i := 121) rfl rfl
theorem k_1_122 : Cond.fieldLink RX3 15 RX3 "places" "[I" ∈ q_tw := q_w1 (i := 122) rfl rfl
theorem k_1_123 : Cond.fieldLink RX6 117 RX3 "places" "[I" ∈ q_tw := q_w1 (i := 123) rfl rfl
theorem k_1_124 : Cond.fieldLink RX3 18 RX3 "takenFor" "[I" ∈ q_tw := q_w1 (i := 124) rfl rfl
theorem k_1_125 : Cond.fieldLink RX6 120 RX3 "takenFor" "[I" ∈ q_tw := q_w1 (i := 125) rfl rfl
theorem k_1_126 : Cond.fieldLink RX3 21 RX3 "hours" "[I" ∈ q_tw := q_w1 (i := 126) rfl rfl
theorem k_1_127 : Cond.fieldLink RX4 46 RX3 "hours" "[I" ∈ q_tw := q_w1 (i := 127) rfl rfl
theorem k_1_128 : Cond.fieldLink RX6 138 RX3 "hours" "[I" ∈ q_tw := q_w1 (i := 128) rfl rfl
theorem k_1_129 : Cond.fieldLink RX3 24 RX3 "hearings" "[I" ∈ q_tw := q_w1 (i := 129) rfl rfl
theorem k_1_130 : Cond.fieldLink RX3 27 RX3 "vows" "[I" ∈ q_tw := q_w1 (i := 130) rfl rfl
theorem k_1_157 : Cond.fieldLink RX2 9 RX2 "slots" "[LStoneApologies$Quarry;" ∈ q_tw := q_w1 (i := 157) rfl rfl
theorem k_1_158 : Cond.fieldLink RX2 22 RX2 "next" "I" ∈ q_tw := q_w1 (i := 158) rfl rfl
theorem k_1_159 : Cond.fieldLink RX2 18 RX2 "size" "I" ∈ q_tw := q_w1 (i := 159) rfl rfl
theorem k_1_160 : Cond.fieldLink RX6 190 RX2 "size" "I" ∈ q_tw := q_w1 (i := 160) rfl rfl
theorem k_1_174 : Cond.fieldLink RX4 15 RX4 "trial" "LStoneApologies$Quarry;" ∈ q_tw := q_w1 (i := 174) rfl rfl
theorem k_1_175 : Cond.fieldLink RX4 9 RX4 "row" "[I" ∈ q_tw := q_w1 (i := 175) rfl rfl
theorem k_1_176 : Cond.fieldLink RX6 200 RX4 "row" "[I" ∈ q_tw := q_w1 (i := 176) rfl rfl
theorem k_1_190 : Cond.fieldLink RX1 11 RX1 "steps" "[LStoneApologies$Quarry;" ∈ q_tw := q_w1 (i := 190) rfl rfl
theorem k_1_191 : Cond.fieldLink RX1 17 RX1 "row" "[I" ∈ q_tw := q_w1 (i := 191) rfl rfl
theorem k_1_192 : Cond.fieldLink RX1 21 RX1 "found" "[I" ∈ q_tw := q_w1 (i := 192) rfl rfl
theorem k_1_193 : Cond.fieldLink RX6 215 RX1 "found" "[I" ∈ q_tw := q_w1 (i := 193) rfl rfl
theorem k_1_194 : Cond.fieldLink RX1 39 RX1 "asked" "I" ∈ q_tw := q_w1 (i := 194) rfl rfl
theorem k_1_195 : Cond.fieldLink RX6 212 RX1 "asked" "I" ∈ q_tw := q_w1 (i := 195) rfl rfl
theorem k_1_196 : Cond.fieldLink RX1 43 RX1 "most" "I" ∈ q_tw := q_w1 (i := 196) rfl rfl
theorem k_1_197 : Cond.fieldLink RX6 209 RX1 "most" "I" ∈ q_tw := q_w1 (i := 197) rfl rfl
theorem k_2_18 : Cond.methodLink RX6 78 yX5_append ∈ q_tw := q_w2 (i := 18) rfl rfl
theorem k_2_19 : Cond.instanceMethod yX5_append ∈ q_tw := q_w2 (i := 19) rfl rfl
theorem k_2_20 : Cond.selects RX5 yX5_append yX5_append ∈ q_tw := q_w2 (i := 20) rfl rfl
theorem k_2_21 : Cond.code yX5_append cX5_append 2 none ∈ q_tw := q_w2 (i := 21) rfl rfl
theorem k_2_23 : Cond.static yX6_put ∈ q_tw := q_w2 (i := 23) rfl rfl
theorem k_2_24 : Cond.code yX6_put cX6_put 3 none ∈ q_tw := q_w2 (i := 24) rfl rfl
theorem k_2_25 : Cond.methodLink RX6 82 yX6_layOut ∈ q_tw := q_w2 (i := 25) rfl rfl
theorem k_2_27 : Cond.instanceMethod yX6_layOut ∈ q_tw := q_w2 (i := 27) rfl rfl
theorem k_2_28 : Cond.code yX6_layOut cX6_layOut 1 none ∈ q_tw := q_w2 (i := 28) rfl rfl
theorem k_2_29 : Cond.methodLink RX6 88 yX5_readInto ∈ q_tw := q_w2 (i := 29) rfl rfl
theorem k_2_30 : Cond.instanceMethod yX5_readInto ∈ q_tw := q_w2 (i := 30) rfl rfl
theorem k_2_31 : Cond.selects RX5 yX5_readInto yX5_readInto ∈ q_tw := q_w2 (i := 31) rfl rfl
theorem k_2_32 : Cond.code yX5_readInto cX5_readInto 4 (some .int) ∈ q_tw := q_w2 (i := 32) rfl rfl
theorem k_2_33 : Cond.methodLink RX5 26 yX0_clear ∈ q_tw := q_w2 (i := 33) rfl rfl
theorem k_2_34 : Cond.instanceMethod yX0_clear ∈ q_tw := q_w2 (i := 34) rfl rfl
theorem k_2_35 : Cond.selects RX0 yX0_clear yX0_clear ∈ q_tw := q_w2 (i := 35) rfl rfl
theorem k_2_36 : Cond.code yX0_clear cX0_clear 1 none ∈ q_tw := q_w2 (i := 36) rfl rfl
theorem k_2_38 : Cond.static yX6_fill ∈ q_tw := q_w2 (i := 38) rfl rfl
theorem k_2_39 : Cond.code yX6_fill cX6_fill 3 none ∈ q_tw := q_w2 (i := 39) rfl rfl
theorem k_2_40 : Cond.methodLink RX5 34 yX5_readItem ∈ q_tw := q_w2 (i := 40) rfl rfl
theorem k_2_42 : Cond.instanceMethod yX5_readItem ∈ q_tw := q_w2 (i := 42) rfl rfl
theorem k_2_43 : Cond.code yX5_readItem cX5_readItem 6 (some .boolean) ∈ q_tw := q_w2 (i := 43) rfl rfl
theorem k_2_44 : Cond.methodLink RX5 38 yX5_letterAt ∈ q_tw := q_w2 (i := 44) rfl rfl
theorem k_2_46 : Cond.instanceMethod yX5_letterAt ∈ q_tw := q_w2 (i := 46) rfl rfl
theorem k_2_47 : Cond.code yX5_letterAt cX5_letterAt 2 (some .int) ∈ q_tw := q_w2 (i := 47) rfl rfl
theorem k_2_48 : Cond.methodLink RX5 42 yX5_readNumbers ∈ q_tw := q_w2 (i := 48) rfl rfl
theorem k_2_50 : Cond.instanceMethod yX5_readNumbers ∈ q_tw := q_w2 (i := 50) rfl rfl
theorem k_2_51 : Cond.code yX5_readNumbers cX5_readNumbers 4 (some .int) ∈ q_tw := q_w2 (i := 51) rfl rfl
theorem k_2_52 : Cond.methodLink RX5 68 yX5_readNumber ∈ q_tw := q_w2 (i := 52) rfl rfl
theorem k_2_54 : Cond.instanceMethod yX5_readNumber ∈ q_tw := q_w2 (i := 54) rfl rfl
theorem k_2_55 : Cond.code yX5_readNumber cX5_readNumber 3 (some .int) ∈ q_tw := q_w2 (i := 55) rfl rfl
theorem k_2_57 : Cond.static yX6_at ∈ q_tw := q_w2 (i := 57) rfl rfl
theorem k_2_58 : Cond.code yX6_at cX6_at 2 (some .int) ∈ q_tw := q_w2 (i := 58) rfl rfl
theorem k_2_59 : Cond.methodLink RX5 50 yX0_addBlock ∈ q_tw := q_w2 (i := 59) rfl rfl
theorem k_2_60 : Cond.instanceMethod yX0_addBlock ∈ q_tw := q_w2 (i := 60) rfl rfl
theorem k_2_61 : Cond.selects RX0 yX0_addBlock yX0_addBlock ∈ q_tw := q_w2 (i := 61) rfl rfl
theorem k_2_62 : Cond.code yX0_addBlock cX0_addBlock 3 (some .boolean) ∈ q_tw := q_w2 (i := 62) rfl rfl
theorem k_2_64 : Cond.methodLink RX5 54 yX0_addWord ∈ q_tw := q_w2 (i := 64) rfl rfl
theorem k_2_65 : Cond.instanceMethod yX0_addWord ∈ q_tw := q_w2 (i := 65) rfl rfl
theorem k_2_66 : Cond.selects RX0 yX0_addWord yX0_addWord ∈ q_tw := q_w2 (i := 66) rfl rfl
theorem k_2_67 : Cond.code yX0_addWord cX0_addWord 2 (some .boolean) ∈ q_tw := q_w2 (i := 67) rfl rfl
theorem k_2_68 : Cond.methodLink RX5 58 yX0_addSpeaker ∈ q_tw := q_w2 (i := 68) rfl rfl
theorem k_2_69 : Cond.instanceMethod yX0_addSpeaker ∈ q_tw := q_w2 (i := 69) rfl rfl
theorem k_2_70 : Cond.selects RX0 yX0_addSpeaker yX0_addSpeaker ∈ q_tw := q_w2 (i := 70) rfl rfl
theorem k_2_71 : Cond.code yX0_addSpeaker cX0_addSpeaker 3 (some .boolean) ∈ q_tw := q_w2 (i := 71) rfl rfl
theorem k_2_72 : Cond.methodLink RX5 61 yX0_setFrost ∈ q_tw := q_w2 (i := 72) rfl rfl
theorem k_2_73 : Cond.instanceMethod yX0_setFrost ∈ q_tw := q_w2 (i := 73) rfl rfl
theorem k_2_74 : Cond.selects RX0 yX0_setFrost yX0_setFrost ∈ q_tw := q_w2 (i := 74) rfl rfl
theorem k_2_75 : Cond.code yX0_setFrost cX0_setFrost 2 (some .boolean) ∈ q_tw := q_w2 (i := 75) rfl rfl
theorem k_2_76 : Cond.methodLink RX5 64 yX0_addVow ∈ q_tw := q_w2 (i := 76) rfl rfl
theorem k_2_77 : Cond.instanceMethod yX0_addVow ∈ q_tw := q_w2 (i := 77) rfl rfl
theorem k_2_78 : Cond.selects RX0 yX0_addVow yX0_addVow ∈ q_tw := q_w2 (i := 78) rfl rfl
theorem k_2_79 : Cond.code yX0_addVow cX0_addVow 4 (some .boolean) ∈ q_tw := q_w2 (i := 79) rfl rfl
theorem k_2_81 : Cond.static yX6_isUse ∈ q_tw := q_w2 (i := 81) rfl rfl
theorem k_2_82 : Cond.code yX6_isUse cX6_isUse 1 (some .boolean) ∈ q_tw := q_w2 (i := 82) rfl rfl
theorem k_2_83 : Cond.methodLink RX0 61 yX0_vowPlace ∈ q_tw := q_w2 (i := 83) rfl rfl
theorem k_2_84 : Cond.static yX0_vowPlace ∈ q_tw := q_w2 (i := 84) rfl rfl
theorem k_2_85 : Cond.code yX0_vowPlace cX0_vowPlace 2 (some .int) ∈ q_tw := q_w2 (i := 85) rfl rfl
theorem k_2_86 : Cond.methodLink RX6 279 yX0_reckon ∈ q_tw := q_w2 (i := 86) rfl rfl
theorem k_2_87 : Cond.instanceMethod yX0_reckon ∈ q_tw := q_w2 (i := 87) rfl rfl
theorem k_2_88 : Cond.selects RX0 yX0_reckon yX0_reckon ∈ q_tw := q_w2 (i := 88) rfl rfl
theorem k_2_89 : Cond.code yX0_reckon cX0_reckon 5 none ∈ q_tw := q_w2 (i := 89) rfl rfl
theorem k_2_91 : Cond.methodLink RX0 69 yX0_plainWorth ∈ q_tw := q_w2 (i := 91) rfl rfl
theorem k_2_93 : Cond.instanceMethod yX0_plainWorth ∈ q_tw := q_w2 (i := 93) rfl rfl
theorem k_2_94 : Cond.code yX0_plainWorth cX0_plainWorth 4 (some .int) ∈ q_tw := q_w2 (i := 94) rfl rfl
theorem k_2_95 : Cond.methodLink RX0 72 yX0_wordPlace ∈ q_tw := q_w2 (i := 95) rfl rfl
theorem k_2_96 : Cond.static yX0_wordPlace ∈ q_tw := q_w2 (i := 96) rfl rfl
theorem k_2_97 : Cond.code yX0_wordPlace cX0_wordPlace 2 (some .int) ∈ q_tw := q_w2 (i := 97) rfl rfl
theorem k_2_98 : Cond.methodLink RX0 75 yX0_sayingPlace ∈ q_tw := q_w2 (i := 98) rfl rfl
theorem k_2_99 : Cond.static yX0_sayingPlace ∈ q_tw := q_w2 (i := 99) rfl rfl
theorem k_2_100 : Cond.code yX0_sayingPlace cX0_sayingPlace 3 (some .int) ∈ q_tw := q_w2 (i := 100) rfl rfl
theorem k_2_101 : Cond.methodLink RX0 79 yX0_spokenWorth ∈ q_tw := q_w2 (i := 101) rfl rfl
theorem k_2_103 : Cond.instanceMethod yX0_spokenWorth ∈ q_tw := q_w2 (i := 103) rfl rfl
theorem k_2_104 : Cond.code yX0_spokenWorth cX0_spokenWorth 5 (some .int) ∈ q_tw := q_w2 (i := 104) rfl rfl
theorem k_2_105 : Cond.methodLink RX6 282 yX3_begin ∈ q_tw := q_w2 (i := 105) rfl rfl
theorem k_2_106 : Cond.instanceMethod yX3_begin ∈ q_tw := q_w2 (i := 106) rfl rfl
theorem k_2_107 : Cond.selects RX3 yX3_begin yX3_begin ∈ q_tw := q_w2 (i := 107) rfl rfl
theorem k_2_108 : Cond.code yX3_begin cX3_begin 1 none ∈ q_tw := q_w2 (i := 108) rfl rfl
theorem k_2_111 : Cond.static yX6_copy ∈ q_tw := q_w2 (i := 111) rfl rfl
theorem k_2_112 : Cond.code yX6_copy cX6_copy 3 none ∈ q_tw := q_w2 (i := 112) rfl rfl
theorem k_2_113 : Cond.methodLink RX6 273 yX2_clear ∈ q_tw := q_w2 (i := 113) rfl rfl
theorem k_2_114 : Cond.instanceMethod yX2_clear ∈ q_tw := q_w2 (i := 114) rfl rfl
theorem k_2_115 : Cond.selects RX2 yX2_clear yX2_clear ∈ q_tw := q_w2 (i := 115) rfl rfl
theorem k_2_116 : Cond.code yX2_clear cX2_clear 1 none ∈ q_tw := q_w2 (i := 116) rfl rfl
theorem k_2_117 : Cond.fieldLink RX6 10 RX6 "text" "LStoneApologies$Text;" ∈ q_tw := q_w2 (i := 117) rfl rfl
theorem k_2_118 : Cond.fieldLink RX6 19 RX6 "bed" "LStoneApologies$Bed;" ∈ q_tw := q_w2 (i := 118) rfl rfl
theorem k_2_119 : Cond.fieldLink RX6 23 RX6 "draft" "LStoneApologies$Bed;" ∈ q_tw := q_w2 (i := 119) rfl rfl
theorem k_2_120 : Cond.fieldLink RX6 31 RX6 "now" "LStoneApologies$Quarry;" ∈ q_tw := q_w2 (i := 120) rfl rfl
theorem k_2_121 : Cond.fieldLink RX6 35 RX6 "trial" "LStoneApologies$Quarry;" ∈ q_tw := q_w2 (i := 121) rfl rfl
theorem k_2_122 : Cond.fieldLink RX6 43 RX6 "past" "LStoneApologies$Pile;" ∈ q_tw := q_w2 (i := 122) rfl rfl
theorem k_2_123 : Cond.fieldLink RX6 47 RX6 "kept" "LStoneApologies$Pile;" ∈ q_tw := q_w2 (i := 123) rfl rfl
theorem k_2_124 : Cond.fieldLink RX6 55 RX6 "rows" "LStoneApologies$Rows;" ∈ q_tw := q_w2 (i := 124) rfl rfl
theorem k_2_125 : Cond.fieldLink RX6 62 RX6 "orders" "LStoneApologies$Orders;" ∈ q_tw := q_w2 (i := 125) rfl rfl
theorem k_2_162 : Cond.methodLink RX6 92 yX0_isWhole ∈ q_tw := q_w2 (i := 162) rfl rfl
theorem k_2_163 : Cond.instanceMethod yX0_isWhole ∈ q_tw := q_w2 (i := 163) rfl rfl
theorem k_2_164 : Cond.selects RX0 yX0_isWhole yX0_isWhole ∈ q_tw := q_w2 (i := 164) rfl rfl
theorem k_2_165 : Cond.code yX0_isWhole cX0_isWhole 1 (some .boolean) ∈ q_tw := q_w2 (i := 165) rfl rfl
theorem k_2_170 : Cond.methodLink RX6 99 yX6_isBlock ∈ q_tw := q_w2 (i := 170) rfl rfl
theorem k_2_172 : Cond.instanceMethod yX6_isBlock ∈ q_tw := q_w2 (i := 172) rfl rfl
theorem k_2_173 : Cond.code yX6_isBlock cX6_isBlock 2 (some .boolean) ∈ q_tw := q_w2 (i := 173) rfl rfl
theorem k_2_174 : Cond.methodLink RX6 107 yX6_at ∈ q_tw := q_w2 (i := 174) rfl rfl
theorem k_2_179 : Cond.methodLink RX6 123 yX6_isWord ∈ q_tw := q_w2 (i := 179) rfl rfl
theorem k_2_181 : Cond.instanceMethod yX6_isWord ∈ q_tw := q_w2 (i := 181) rfl rfl
theorem k_2_182 : Cond.code yX6_isWord cX6_isWord 2 (some .boolean) ∈ q_tw := q_w2 (i := 182) rfl rfl
theorem k_2_187 : Cond.methodLink RX6 129 yX6_isSpeaker ∈ q_tw := q_w2 (i := 187) rfl rfl
theorem k_2_189 : Cond.instanceMethod yX6_isSpeaker ∈ q_tw := q_w2 (i := 189) rfl rfl
theorem k_2_190 : Cond.code yX6_isSpeaker cX6_isSpeaker 2 (some .boolean) ∈ q_tw := q_w2 (i := 190) rfl rfl
theorem k_2_195 : Cond.methodLink RX6 141 yX3_timesHeard ∈ q_tw := q_w2 (i := 195) rfl rfl
theorem k_2_196 : Cond.instanceMethod yX3_timesHeard ∈ q_tw := q_w2 (i := 196) rfl rfl
theorem k_2_197 : Cond.selects RX3 yX3_timesHeard yX3_timesHeard ∈ q_tw := q_w2 (i := 197) rfl rfl
theorem k_2_198 : Cond.code yX3_timesHeard cX3_timesHeard 3 (some .int) ∈ q_tw := q_w2 (i := 198) rfl rfl
theorem k_2_199 : Cond.methodLink RX3 67 yX0_wordPlace ∈ q_tw := q_w2 (i := 199) rfl rfl
theorem k_2_205 : Cond.methodLink RX6 145 yX3_vowOf ∈ q_tw := q_w2 (i := 205) rfl rfl
theorem k_2_206 : Cond.instanceMethod yX3_vowOf ∈ q_tw := q_w2 (i := 206) rfl rfl
theorem k_2_207 : Cond.selects RX3 yX3_vowOf yX3_vowOf ∈ q_tw := q_w2 (i := 207) rfl rfl
theorem k_2_208 : Cond.code yX3_vowOf cX3_vowOf 3 (some .int) ∈ q_tw := q_w2 (i := 208) rfl rfl
theorem k_2_209 : Cond.methodLink RX3 83 yX0_vowPlace ∈ q_tw := q_w2 (i := 209) rfl rfl
theorem k_2_214 : Cond.methodLink RX6 148 yX6_isSaying ∈ q_tw := q_w2 (i := 214) rfl rfl
theorem k_2_216 : Cond.instanceMethod yX6_isSaying ∈ q_tw := q_w2 (i := 216) rfl rfl
theorem k_2_217 : Cond.code yX6_isSaying cX6_isSaying 4 (some .boolean) ∈ q_tw := q_w2 (i := 217) rfl rfl
theorem k_2_218 : Cond.methodLink RX6 152 yX3_worthOf ∈ q_tw := q_w2 (i := 218) rfl rfl
theorem k_2_219 : Cond.instanceMethod yX3_worthOf ∈ q_tw := q_w2 (i := 219) rfl rfl
theorem k_2_220 : Cond.selects RX3 yX3_worthOf yX3_worthOf ∈ q_tw := q_w2 (i := 220) rfl rfl
theorem k_2_221 : Cond.code yX3_worthOf cX3_worthOf 5 (some .int) ∈ q_tw := q_w2 (i := 221) rfl rfl
theorem k_2_222 : Cond.methodLink RX3 74 yX0_sayingPlace ∈ q_tw := q_w2 (i := 222) rfl rfl
theorem k_2_223 : Cond.methodLink RX3 78 Lib.Math.max.name ∈ q_tw := q_w2 (i := 223) rfl rfl
theorem k_2_224 : Cond.static Lib.Math.max.name ∈ q_tw := q_w2 (i := 224) rfl rfl
theorem k_2_225 : Cond.code Lib.Math.max.name Lib.Math.max.code 2 (some .int) ∈ q_tw := q_w2 (i := 225) rfl rfl
theorem k_2_230 : Cond.methodLink RX6 156 yX3_canSay ∈ q_tw := q_w2 (i := 230) rfl rfl
theorem k_2_231 : Cond.instanceMethod yX3_canSay ∈ q_tw := q_w2 (i := 231) rfl rfl
theorem k_2_232 : Cond.selects RX3 yX3_canSay yX3_canSay ∈ q_tw := q_w2 (i := 232) rfl rfl
theorem k_2_233 : Cond.code yX3_canSay cX3_canSay 3 (some .boolean) ∈ q_tw := q_w2 (i := 233) rfl rfl
theorem k_2_234 : Cond.methodLink RX6 160 yX2_push ∈ q_tw := q_w2 (i := 234) rfl rfl
theorem k_2_235 : Cond.instanceMethod yX2_push ∈ q_tw := q_w2 (i := 235) rfl rfl
theorem k_2_236 : Cond.selects RX2 yX2_push yX2_push ∈ q_tw := q_w2 (i := 236) rfl rfl
theorem k_2_237 : Cond.code yX2_push cX2_push 3 none ∈ q_tw := q_w2 (i := 237) rfl rfl
theorem k_2_239 : Cond.static yX6_pick ∈ q_tw := q_w2 (i := 239) rfl rfl
theorem k_3_0 : Cond.code yX6_pick cX6_pick 2 (some (.object "StoneApologies$Quarry")) ∈ q_tw := q_w3 (i := 0) rfl rfl
theorem k_3_1 : Cond.methodLink RX2 31 yX3_copyFrom ∈ q_tw := q_w3 (i := 1) rfl rfl
theorem k_3_2 : Cond.instanceMethod yX3_copyFrom ∈ q_tw := q_w3 (i := 2) rfl rfl
theorem k_3_3 : Cond.selects RX3 yX3_copyFrom yX3_copyFrom ∈ q_tw := q_w3 (i := 3) rfl rfl
theorem k_3_4 : Cond.code yX3_copyFrom cX3_copyFrom 2 none ∈ q_tw := q_w3 (i := 4) rfl rfl
theorem k_3_5 : Cond.methodLink RX6 163 yX3_speak ∈ q_tw := q_w3 (i := 5) rfl rfl
theorem k_3_6 : Cond.instanceMethod yX3_speak ∈ q_tw := q_w3 (i := 6) rfl rfl
theorem k_3_7 : Cond.selects RX3 yX3_speak yX3_speak ∈ q_tw := q_w3 (i := 7) rfl rfl
theorem k_3_8 : Cond.code yX3_speak cX3_speak 6 none ∈ q_tw := q_w3 (i := 8) rfl rfl
theorem k_3_9 : Cond.methodLink RX3 86 yX3_worthOf ∈ q_tw := q_w3 (i := 9) rfl rfl
theorem k_3_11 : Cond.methodLink RX3 93 yX3_hearsThrough ∈ q_tw := q_w3 (i := 11) rfl rfl
theorem k_3_13 : Cond.instanceMethod yX3_hearsThrough ∈ q_tw := q_w3 (i := 13) rfl rfl
theorem k_3_14 : Cond.code yX3_hearsThrough cX3_hearsThrough 4 (some .boolean) ∈ q_tw := q_w3 (i := 14) rfl rfl
theorem k_3_15 : Cond.methodLink RX3 97 yX3_hear ∈ q_tw := q_w3 (i := 15) rfl rfl
theorem k_3_16 : Cond.instanceMethod yX3_hear ∈ q_tw := q_w3 (i := 16) rfl rfl
theorem k_3_17 : Cond.selects RX3 yX3_hear yX3_hear ∈ q_tw := q_w3 (i := 17) rfl rfl
theorem k_3_18 : Cond.code yX3_hear cX3_hear 5 none ∈ q_tw := q_w3 (i := 18) rfl rfl
theorem k_3_19 : Cond.methodLink RX3 101 yX3_soften ∈ q_tw := q_w3 (i := 19) rfl rfl
theorem k_3_21 : Cond.instanceMethod yX3_soften ∈ q_tw := q_w3 (i := 21) rfl rfl
theorem k_3_22 : Cond.code yX3_soften cX3_soften 4 none ∈ q_tw := q_w3 (i := 22) rfl rfl
theorem k_3_27 : Cond.methodLink RX6 167 yX6_isUse ∈ q_tw := q_w3 (i := 27) rfl rfl
theorem k_3_28 : Cond.methodLink RX6 170 yX3_isIn ∈ q_tw := q_w3 (i := 28) rfl rfl
theorem k_3_29 : Cond.instanceMethod yX3_isIn ∈ q_tw := q_w3 (i := 29) rfl rfl
theorem k_3_30 : Cond.selects RX3 yX3_isIn yX3_isIn ∈ q_tw := q_w3 (i := 30) rfl rfl
theorem k_3_31 : Cond.code yX3_isIn cX3_isIn 3 (some .boolean) ∈ q_tw := q_w3 (i := 31) rfl rfl
theorem k_3_32 : Cond.methodLink RX6 173 yX3_vow ∈ q_tw := q_w3 (i := 32) rfl rfl
theorem k_3_33 : Cond.instanceMethod yX3_vow ∈ q_tw := q_w3 (i := 33) rfl rfl
theorem k_3_34 : Cond.selects RX3 yX3_vow yX3_vow ∈ q_tw := q_w3 (i := 34) rfl rfl
theorem k_3_35 : Cond.code yX3_vow cX3_vow 4 none ∈ q_tw := q_w3 (i := 35) rfl rfl
theorem k_3_40 : Cond.methodLink RX6 176 yX3_carryOff ∈ q_tw := q_w3 (i := 40) rfl rfl
theorem k_3_41 : Cond.instanceMethod yX3_carryOff ∈ q_tw := q_w3 (i := 41) rfl rfl
theorem k_3_42 : Cond.selects RX3 yX3_carryOff yX3_carryOff ∈ q_tw := q_w3 (i := 42) rfl rfl
theorem k_3_43 : Cond.code yX3_carryOff cX3_carryOff 3 none ∈ q_tw := q_w3 (i := 43) rfl rfl
theorem k_3_44 : Cond.methodLink RX3 105 yX3_wouldCrack ∈ q_tw := q_w3 (i := 44) rfl rfl
theorem k_3_45 : Cond.instanceMethod yX3_wouldCrack ∈ q_tw := q_w3 (i := 45) rfl rfl
theorem k_3_46 : Cond.selects RX3 yX3_wouldCrack yX3_wouldCrack ∈ q_tw := q_w3 (i := 46) rfl rfl
theorem k_3_47 : Cond.code yX3_wouldCrack cX3_wouldCrack 4 (some .boolean) ∈ q_tw := q_w3 (i := 47) rfl rfl
theorem k_3_48 : Cond.methodLink RX3 111 yX3_belies ∈ q_tw := q_w3 (i := 48) rfl rfl
theorem k_3_50 : Cond.instanceMethod yX3_belies ∈ q_tw := q_w3 (i := 50) rfl rfl
theorem k_3_51 : Cond.code yX3_belies cX3_belies 5 (some .boolean) ∈ q_tw := q_w3 (i := 51) rfl rfl
theorem k_3_52 : Cond.methodLink RX3 115 yX3_vowOf ∈ q_tw := q_w3 (i := 52) rfl rfl
theorem k_3_57 : Cond.methodLink RX6 180 yX3_night ∈ q_tw := q_w3 (i := 57) rfl rfl
theorem k_3_58 : Cond.instanceMethod yX3_night ∈ q_tw := q_w3 (i := 58) rfl rfl
theorem k_3_59 : Cond.selects RX3 yX3_night yX3_night ∈ q_tw := q_w3 (i := 59) rfl rfl
theorem k_3_60 : Cond.code yX3_night cX3_night 2 none ∈ q_tw := q_w3 (i := 60) rfl rfl
theorem k_3_61 : Cond.methodLink RX3 118 yX0_coldFor ∈ q_tw := q_w3 (i := 61) rfl rfl
theorem k_3_62 : Cond.instanceMethod yX0_coldFor ∈ q_tw := q_w3 (i := 62) rfl rfl
theorem k_3_63 : Cond.selects RX0 yX0_coldFor yX0_coldFor ∈ q_tw := q_w3 (i := 63) rfl rfl
theorem k_3_64 : Cond.code yX0_coldFor cX0_coldFor 2 (some .int) ∈ q_tw := q_w3 (i := 64) rfl rfl
theorem k_3_69 : Cond.methodLink RX6 186 yX2_pop ∈ q_tw := q_w3 (i := 69) rfl rfl
theorem k_3_70 : Cond.instanceMethod yX2_pop ∈ q_tw := q_w3 (i := 70) rfl rfl
theorem k_3_71 : Cond.selects RX2 yX2_pop yX2_pop ∈ q_tw := q_w3 (i := 71) rfl rfl
theorem k_3_72 : Cond.code yX2_pop cX2_pop 4 (some .boolean) ∈ q_tw := q_w3 (i := 72) rfl rfl
theorem k_3_77 : Cond.methodLink RX6 193 yX3_copyFrom ∈ q_tw := q_w3 (i := 77) rfl rfl
theorem k_3_78 : Cond.methodLink RX6 196 yX4_shortest ∈ q_tw := q_w3 (i := 78) rfl rfl
theorem k_3_79 : Cond.instanceMethod yX4_shortest ∈ q_tw := q_w3 (i := 79) rfl rfl
theorem k_3_80 : Cond.selects RX4 yX4_shortest yX4_shortest ∈ q_tw := q_w3 (i := 80) rfl rfl
theorem k_3_81 : Cond.code yX4_shortest cX4_shortest 3 (some .int) ∈ q_tw := q_w3 (i := 81) rfl rfl
theorem k_3_82 : Cond.methodLink RX4 19 yX4_extend ∈ q_tw := q_w3 (i := 82) rfl rfl
theorem k_3_83 : Cond.static yX4_extend ∈ q_tw := q_w3 (i := 83) rfl rfl
theorem k_3_84 : Cond.code yX4_extend cX4_extend 11 (some .boolean) ∈ q_tw := q_w3 (i := 84) rfl rfl
theorem k_3_85 : Cond.methodLink RX4 23 yX3_lackOf ∈ q_tw := q_w3 (i := 85) rfl rfl
theorem k_3_86 : Cond.instanceMethod yX3_lackOf ∈ q_tw := q_w3 (i := 86) rfl rfl
theorem k_3_87 : Cond.selects RX3 yX3_lackOf yX3_lackOf ∈ q_tw := q_w3 (i := 87) rfl rfl
theorem k_3_88 : Cond.code yX3_lackOf cX3_lackOf 2 (some .int) ∈ q_tw := q_w3 (i := 88) rfl rfl
theorem k_3_89 : Cond.methodLink RX4 29 yX3_dearest ∈ q_tw := q_w3 (i := 89) rfl rfl
theorem k_3_90 : Cond.instanceMethod yX3_dearest ∈ q_tw := q_w3 (i := 90) rfl rfl
theorem k_3_91 : Cond.selects RX3 yX3_dearest yX3_dearest ∈ q_tw := q_w3 (i := 91) rfl rfl
theorem k_3_92 : Cond.code yX3_dearest cX3_dearest 7 (some .int) ∈ q_tw := q_w3 (i := 92) rfl rfl
theorem k_3_94 : Cond.static yX6_saying ∈ q_tw := q_w3 (i := 94) rfl rfl
theorem k_3_95 : Cond.code yX6_saying cX6_saying 2 (some .int) ∈ q_tw := q_w3 (i := 95) rfl rfl
theorem k_3_96 : Cond.methodLink RX4 32 yX3_worthOf ∈ q_tw := q_w3 (i := 96) rfl rfl
theorem k_3_100 : Cond.methodLink RX4 64 yX4_shift ∈ q_tw := q_w3 (i := 100) rfl rfl
theorem k_3_102 : Cond.instanceMethod yX4_shift ∈ q_tw := q_w3 (i := 102) rfl rfl
theorem k_3_103 : Cond.code yX4_shift cX4_shift 6 none ∈ q_tw := q_w3 (i := 103) rfl rfl
theorem k_3_104 : Cond.methodLink RX4 68 yX3_hear ∈ q_tw := q_w3 (i := 104) rfl rfl
theorem k_3_109 : Cond.methodLink RX6 203 yX3_dearest ∈ q_tw := q_w3 (i := 109) rfl rfl
theorem k_3_114 : Cond.methodLink RX6 206 yX1_seek ∈ q_tw := q_w3 (i := 114) rfl rfl
theorem k_3_115 : Cond.instanceMethod yX1_seek ∈ q_tw := q_w3 (i := 115) rfl rfl
theorem k_3_116 : Cond.selects RX1 yX1_seek yX1_seek ∈ q_tw := q_w3 (i := 116) rfl rfl
theorem k_3_117 : Cond.code yX1_seek cX1_seek 3 none ∈ q_tw := q_w3 (i := 117) rfl rfl
theorem k_3_119 : Cond.methodLink RX1 31 yX3_copyFrom ∈ q_tw := q_w3 (i := 119) rfl rfl
theorem k_3_120 : Cond.methodLink RX1 35 yX3_tally ∈ q_tw := q_w3 (i := 120) rfl rfl
theorem k_3_121 : Cond.instanceMethod yX3_tally ∈ q_tw := q_w3 (i := 121) rfl rfl
theorem k_3_122 : Cond.selects RX3 yX3_tally yX3_tally ∈ q_tw := q_w3 (i := 122) rfl rfl
theorem k_3_123 : Cond.code yX3_tally cX3_tally 4 (some .int) ∈ q_tw := q_w3 (i := 123) rfl rfl
theorem k_3_124 : Cond.methodLink RX1 46 yX1_extend ∈ q_tw := q_w3 (i := 124) rfl rfl
theorem k_3_125 : Cond.static yX1_extend ∈ q_tw := q_w3 (i := 125) rfl rfl
theorem k_3_126 : Cond.code yX1_extend cX1_extend 8 none ∈ q_tw := q_w3 (i := 126) rfl rfl
theorem k_3_128 : Cond.methodLink RX1 63 yX3_isIn ∈ q_tw := q_w3 (i := 128) rfl rfl
theorem k_3_130 : Cond.methodLink RX1 71 yX3_askAll ∈ q_tw := q_w3 (i := 130) rfl rfl
theorem k_3_131 : Cond.instanceMethod yX3_askAll ∈ q_tw := q_w3 (i := 131) rfl rfl
theorem k_3_132 : Cond.selects RX3 yX3_askAll yX3_askAll ∈ q_tw := q_w3 (i := 132) rfl rfl
theorem k_3_133 : Cond.code yX3_askAll cX3_askAll 4 none ∈ q_tw := q_w3 (i := 133) rfl rfl
theorem k_3_134 : Cond.methodLink RX3 128 yX3_hoursLeft ∈ q_tw := q_w3 (i := 134) rfl rfl
theorem k_3_135 : Cond.instanceMethod yX3_hoursLeft ∈ q_tw := q_w3 (i := 135) rfl rfl
theorem k_3_136 : Cond.selects RX3 yX3_hoursLeft yX3_hoursLeft ∈ q_tw := q_w3 (i := 136) rfl rfl
theorem k_3_137 : Cond.code yX3_hoursLeft cX3_hoursLeft 3 (some .int) ∈ q_tw := q_w3 (i := 137) rfl rfl
theorem k_3_138 : Cond.methodLink RX3 132 yX3_dearest ∈ q_tw := q_w3 (i := 138) rfl rfl
theorem k_3_139 : Cond.methodLink RX3 135 yX3_speak ∈ q_tw := q_w3 (i := 139) rfl rfl
theorem k_3_144 : Cond.methodLink RX6 218 yX3_askOne ∈ q_tw := q_w3 (i := 144) rfl rfl
theorem k_3_145 : Cond.instanceMethod yX3_askOne ∈ q_tw := q_w3 (i := 145) rfl rfl
theorem k_3_146 : Cond.selects RX3 yX3_askOne yX3_askOne ∈ q_tw := q_w3 (i := 146) rfl rfl
theorem k_3_147 : Cond.code yX3_askOne cX3_askOne 5 none ∈ q_tw := q_w3 (i := 147) rfl rfl
theorem k_3_148 : Cond.methodLink RX3 138 yX3_dearestWord ∈ q_tw := q_w3 (i := 148) rfl rfl
theorem k_3_150 : Cond.instanceMethod yX3_dearestWord ∈ q_tw := q_w3 (i := 150) rfl rfl
theorem k_3_151 : Cond.code yX3_dearestWord cX3_dearestWord 7 (some .int) ∈ q_tw := q_w3 (i := 151) rfl rfl
theorem k_3_156 : Cond.methodLink RX6 221 yX0_coldFor ∈ q_tw := q_w3 (i := 156) rfl rfl
theorem k_3_157 : Cond.methodLink RX6 224 yX3_lackOf ∈ q_tw := q_w3 (i := 157) rfl rfl
theorem k_3_162 : Cond.methodLink RX6 227 yX3_wouldCrack ∈ q_tw := q_w3 (i := 162) rfl rfl
theorem k_3_167 : Cond.methodLink RX6 230 yX3_mildest ∈ q_tw := q_w3 (i := 167) rfl rfl
theorem k_3_168 : Cond.instanceMethod yX3_mildest ∈ q_tw := q_w3 (i := 168) rfl rfl
theorem k_3_169 : Cond.selects RX3 yX3_mildest yX3_mildest ∈ q_tw := q_w3 (i := 169) rfl rfl
theorem k_3_170 : Cond.code yX3_mildest cX3_mildest 10 (some .int) ∈ q_tw := q_w3 (i := 170) rfl rfl
theorem k_3_171 : Cond.methodLink RX3 141 yX3_harmOf ∈ q_tw := q_w3 (i := 171) rfl rfl
theorem k_3_173 : Cond.instanceMethod yX3_harmOf ∈ q_tw := q_w3 (i := 173) rfl rfl
theorem k_3_174 : Cond.code yX3_harmOf cX3_harmOf 6 (some .int) ∈ q_tw := q_w3 (i := 174) rfl rfl
theorem k_3_175 : Cond.methodLink RX3 147 yX3_timesHeard ∈ q_tw := q_w3 (i := 175) rfl rfl
theorem k_3_180 : Cond.methodLink RX6 236 yJ6_bitCount_0f7a4 ∈ q_tw := q_w3 (i := 180) rfl rfl
theorem k_3_181 : Cond.static yJ6_bitCount_0f7a4 ∈ q_tw := q_w3 (i := 181) rfl rfl
theorem k_3_182 : Cond.code yJ6_bitCount_0f7a4 cJ6_bitCount_0f7a4 1 (some .int) ∈ q_tw := q_w3 (i := 182) rfl rfl
theorem k_3_183 : Cond.constant RJ6 265 (1431655765) ∈ q_tw := q_w3 (i := 183) rfl rfl
theorem k_3_184 : Cond.constant RJ6 266 (858993459) ∈ q_tw := q_w3 (i := 184) rfl rfl
theorem k_3_185 : Cond.constant RJ6 267 (252645135) ∈ q_tw := q_w3 (i := 185) rfl rfl
theorem k_3_186 : Cond.methodLink RX6 241 yX3_explains ∈ q_tw := q_w3 (i := 186) rfl rfl
theorem k_3_187 : Cond.instanceMethod yX3_explains ∈ q_tw := q_w3 (i := 187) rfl rfl
theorem k_3_188 : Cond.selects RX3 yX3_explains yX3_explains ∈ q_tw := q_w3 (i := 188) rfl rfl
theorem k_3_189 : Cond.code yX3_explains cX3_explains 3 (some .boolean) ∈ q_tw := q_w3 (i := 189) rfl rfl
theorem k_3_190 : Cond.methodLink RX3 150 yX3_explainsOne ∈ q_tw := q_w3 (i := 190) rfl rfl
theorem k_3_192 : Cond.instanceMethod yX3_explainsOne ∈ q_tw := q_w3 (i := 192) rfl rfl
theorem k_3_193 : Cond.code yX3_explainsOne cX3_explainsOne 4 (some .boolean) ∈ q_tw := q_w3 (i := 193) rfl rfl
theorem k_3_198 : Cond.methodLink RX6 244 yX6_isPart ∈ q_tw := q_w3 (i := 198) rfl rfl
theorem k_3_199 : Cond.static yX6_isPart ∈ q_tw := q_w3 (i := 199) rfl rfl
theorem k_3_200 : Cond.code yX6_isPart cX6_isPart 1 (some .boolean) ∈ q_tw := q_w3 (i := 200) rfl rfl
theorem k_3_201 : Cond.methodLink RX6 250 yX6_saying ∈ q_tw := q_w3 (i := 201) rfl rfl
theorem k_3_206 : Cond.methodLink RX6 253 yX3_softerBy ∈ q_tw := q_w3 (i := 206) rfl rfl
theorem k_3_207 : Cond.instanceMethod yX3_softerBy ∈ q_tw := q_w3 (i := 207) rfl rfl
theorem k_3_208 : Cond.selects RX3 yX3_softerBy yX3_softerBy ∈ q_tw := q_w3 (i := 208) rfl rfl
theorem k_3_209 : Cond.code yX3_softerBy cX3_softerBy 8 (some .int) ∈ q_tw := q_w3 (i := 209) rfl rfl
theorem k_3_210 : Cond.methodLink RX6 257 yX6_weight ∈ q_tw := q_w3 (i := 210) rfl rfl
theorem k_3_211 : Cond.static yX6_weight ∈ q_tw := q_w3 (i := 211) rfl rfl
theorem k_3_212 : Cond.code yX6_weight cX6_weight 5 (some .int) ∈ q_tw := q_w3 (i := 212) rfl rfl
theorem k_3_213 : Cond.methodLink RX6 260 yX6_commonMeasure ∈ q_tw := q_w3 (i := 213) rfl rfl
theorem k_3_214 : Cond.static yX6_commonMeasure ∈ q_tw := q_w3 (i := 214) rfl rfl
theorem k_3_215 : Cond.code yX6_commonMeasure cX6_commonMeasure 4 (some .int) ∈ q_tw := q_w3 (i := 215) rfl rfl
theorem k_3_220 : Cond.methodLink RX6 263 yX6_drawOf ∈ q_tw := q_w3 (i := 220) rfl rfl
theorem k_3_221 : Cond.static yX6_drawOf ∈ q_tw := q_w3 (i := 221) rfl rfl
theorem k_3_222 : Cond.code yX6_drawOf cX6_drawOf 4 (some .int) ∈ q_tw := q_w3 (i := 222) rfl rfl
theorem k_3_223 : Cond.constantLong RX6 285 (7919) ∈ q_tw := q_w3 (i := 223) rfl rfl
theorem k_3_224 : Cond.constantLong RX6 287 (6151) ∈ q_tw := q_w3 (i := 224) rfl rfl
theorem k_3_225 : Cond.constantLong RX6 289 (65521) ∈ q_tw := q_w3 (i := 225) rfl rfl
theorem k_3_226 : Cond.methodLink RX6 266 yX6_live ∈ q_tw := q_w3 (i := 226) rfl rfl
theorem k_3_227 : Cond.static yX6_live ∈ q_tw := q_w3 (i := 227) rfl rfl
theorem k_3_228 : Cond.code yX6_live cX6_live 6 none ∈ q_tw := q_w3 (i := 228) rfl rfl
theorem k_3_229 : Cond.methodLink RX6 270 yX3_tally ∈ q_tw := q_w3 (i := 229) rfl rfl
theorem k_4_2 : Cond.methodLink RX6 276 yX3_hoursLeft ∈ q_tw := q_w4 (i := 2) rfl rfl
theorem k_4_9 : Cond.methodLink RX7 61 yX7_starts ∈ q_tw := q_w4 (i := 9) rfl rfl
theorem k_4_11 : Cond.instanceMethod yX7_starts ∈ q_tw := q_w4 (i := 11) rfl rfl
theorem k_4_12 : Cond.code yX7_starts cX7_starts 2 none ∈ q_tw := q_w4 (i := 12) rfl rfl
theorem k_4_13 : Cond.methodLink RX7 64 yX7_addsBlock ∈ q_tw := q_w4 (i := 13) rfl rfl
theorem k_4_15 : Cond.instanceMethod yX7_addsBlock ∈ q_tw := q_w4 (i := 15) rfl rfl
theorem k_4_16 : Cond.code yX7_addsBlock cX7_addsBlock 3 none ∈ q_tw := q_w4 (i := 16) rfl rfl
theorem k_4_17 : Cond.methodLink RX7 68 yX7_addsWord ∈ q_tw := q_w4 (i := 17) rfl rfl
theorem k_4_19 : Cond.instanceMethod yX7_addsWord ∈ q_tw := q_w4 (i := 19) rfl rfl
theorem k_4_20 : Cond.code yX7_addsWord cX7_addsWord 2 none ∈ q_tw := q_w4 (i := 20) rfl rfl
theorem k_4_21 : Cond.methodLink RX7 72 yX7_addsSpeaker ∈ q_tw := q_w4 (i := 21) rfl rfl
theorem k_4_23 : Cond.instanceMethod yX7_addsSpeaker ∈ q_tw := q_w4 (i := 23) rfl rfl
theorem k_4_24 : Cond.code yX7_addsSpeaker cX7_addsSpeaker 3 none ∈ q_tw := q_w4 (i := 24) rfl rfl
theorem k_4_25 : Cond.methodLink RX7 79 yX7_begins ∈ q_tw := q_w4 (i := 25) rfl rfl
theorem k_4_27 : Cond.instanceMethod yX7_begins ∈ q_tw := q_w4 (i := 27) rfl rfl
theorem k_4_28 : Cond.code yX7_begins cX7_begins 2 none ∈ q_tw := q_w4 (i := 28) rfl rfl
theorem k_4_29 : Cond.fieldLink RX7 7 RX7 "w" "[I" ∈ q_tw := q_w4 (i := 29) rfl rfl
theorem k_4_30 : Cond.fieldLink RX7 107 RX7 "undoes" "I" ∈ q_tw := q_w4 (i := 30) rfl rfl
theorem k_4_31 : Cond.fieldLink RX7 110 RX7 "kept" "I" ∈ q_tw := q_w4 (i := 31) rfl rfl
theorem k_4_32 : Cond.fieldLink RX7 82 RX7 "blocks" "I" ∈ q_tw := q_w4 (i := 32) rfl rfl
theorem k_4_33 : Cond.fieldLink RX7 13 RX7 "kind" "[I" ∈ q_tw := q_w4 (i := 33) rfl rfl
theorem k_4_34 : Cond.fieldLink RX7 16 RX7 "needs" "[I" ∈ q_tw := q_w4 (i := 34) rfl rfl
theorem k_4_35 : Cond.fieldLink RX7 89 RX7 "words" "I" ∈ q_tw := q_w4 (i := 35) rfl rfl
theorem k_4_36 : Cond.fieldLink RX7 19 RX7 "told" "[I" ∈ q_tw := q_w4 (i := 36) rfl rfl
theorem k_4_37 : Cond.fieldLink RX7 92 RX7 "speakers" "I" ∈ q_tw := q_w4 (i := 37) rfl rfl
theorem k_4_38 : Cond.fieldLink RX7 22 RX7 "speaks" "[I" ∈ q_tw := q_w4 (i := 38) rfl rfl
theorem k_4_39 : Cond.fieldLink RX7 25 RX7 "daily" "[I" ∈ q_tw := q_w4 (i := 39) rfl rfl
theorem k_4_40 : Cond.fieldLink RX7 104 RX7 "cold" "I" ∈ q_tw := q_w4 (i := 40) rfl rfl
theorem k_4_41 : Cond.fieldLink RX7 28 RX7 "text" "[I" ∈ q_tw := q_w4 (i := 41) rfl rfl
theorem k_4_42 : Cond.fieldLink RX7 117 RX7 "texted" "I" ∈ q_tw := q_w4 (i := 42) rfl rfl
theorem k_4_43 : Cond.fieldLink RX7 120 RX7 "place" "I" ∈ q_tw := q_w4 (i := 43) rfl rfl
theorem k_4_44 : Cond.fieldLink RX7 123 RX7 "number" "I" ∈ q_tw := q_w4 (i := 44) rfl rfl
theorem k_4_45 : Cond.fieldLink RX7 95 RX7 "readBlocks" "I" ∈ q_tw := q_w4 (i := 45) rfl rfl
theorem k_4_46 : Cond.fieldLink RX7 31 RX7 "readBlock" "[I" ∈ q_tw := q_w4 (i := 46) rfl rfl
theorem k_4_47 : Cond.fieldLink RX7 98 RX7 "readWords" "I" ∈ q_tw := q_w4 (i := 47) rfl rfl
theorem k_4_48 : Cond.fieldLink RX7 34 RX7 "readWord" "[I" ∈ q_tw := q_w4 (i := 48) rfl rfl
theorem k_4_49 : Cond.fieldLink RX7 101 RX7 "readSpeakers" "I" ∈ q_tw := q_w4 (i := 49) rfl rfl
theorem k_4_50 : Cond.fieldLink RX7 37 RX7 "readSpeaker" "[I" ∈ q_tw := q_w4 (i := 50) rfl rfl
theorem k_4_51 : Cond.fieldLink RX7 75 RX7 "readCold" "I" ∈ q_tw := q_w4 (i := 51) rfl rfl
theorem k_4_52 : Cond.fieldLink RX7 40 RX7 "readPromised" "[I" ∈ q_tw := q_w4 (i := 52) rfl rfl
theorem k_4_53 : Cond.fieldLink RX7 43 RX7 "tried" "[I" ∈ q_tw := q_w4 (i := 53) rfl rfl
theorem k_4_54 : Cond.fieldLink RX7 46 RX7 "softBy" "[I" ∈ q_tw := q_w4 (i := 54) rfl rfl
theorem k_4_55 : Cond.fieldLink RX7 49 RX7 "timesSaid" "[I" ∈ q_tw := q_w4 (i := 55) rfl rfl
theorem k_4_56 : Cond.fieldLink RX7 52 RX7 "hoursSpoken" "[I" ∈ q_tw := q_w4 (i := 56) rfl rfl
theorem k_4_57 : Cond.fieldLink RX7 55 RX7 "asked" "[I" ∈ q_tw := q_w4 (i := 57) rfl rfl
theorem k_4_58 : Cond.fieldLink RX7 58 RX7 "bestAsked" "[I" ∈ q_tw := q_w4 (i := 58) rfl rfl
theorem k_4_124 : Cond.constantLong RX7 113 (32) ∈ q_tw := q_w4 (i := 124) rfl rfl
theorem k_4_125 : Cond.constantLong RX7 115 (126) ∈ q_tw := q_w4 (i := 125) rfl rfl
theorem k_4_126 : Cond.methodLink RX7 85 yX7_in ∈ q_tw := q_w4 (i := 126) rfl rfl
theorem k_4_127 : Cond.static yX7_in ∈ q_tw := q_w4 (i := 127) rfl rfl
theorem k_4_128 : Cond.code yX7_in cX7_in 6 (some .boolean) ∈ q_tw := q_w4 (i := 128) rfl rfl
theorem k_4_137 : Cond.methodLink RX7 157 yX7_faultOf ∈ q_tw := q_w4 (i := 137) rfl rfl
theorem k_4_139 : Cond.instanceMethod yX7_faultOf ∈ q_tw := q_w4 (i := 139) rfl rfl
theorem k_4_140 : Cond.code yX7_faultOf cX7_faultOf 2 (some .int) ∈ q_tw := q_w4 (i := 140) rfl rfl
theorem k_4_141 : Cond.methodLink RX7 154 yX7_takesItem ∈ q_tw := q_w4 (i := 141) rfl rfl
theorem k_4_143 : Cond.instanceMethod yX7_takesItem ∈ q_tw := q_w4 (i := 143) rfl rfl
theorem k_4_144 : Cond.code yX7_takesItem cX7_takesItem 2 (some .boolean) ∈ q_tw := q_w4 (i := 144) rfl rfl
theorem k_4_145 : Cond.methodLink RX7 126 yX7_letterAt ∈ q_tw := q_w4 (i := 145) rfl rfl
theorem k_4_147 : Cond.instanceMethod yX7_letterAt ∈ q_tw := q_w4 (i := 147) rfl rfl
theorem k_4_148 : Cond.code yX7_letterAt cX7_letterAt 2 (some .int) ∈ q_tw := q_w4 (i := 148) rfl rfl
theorem k_4_149 : Cond.methodLink RX7 138 yX7_takesBlock ∈ q_tw := q_w4 (i := 149) rfl rfl
theorem k_4_151 : Cond.instanceMethod yX7_takesBlock ∈ q_tw := q_w4 (i := 151) rfl rfl
theorem k_4_152 : Cond.code yX7_takesBlock cX7_takesBlock 2 (some .boolean) ∈ q_tw := q_w4 (i := 152) rfl rfl
theorem k_4_153 : Cond.methodLink RX7 134 yX7_takesNumber ∈ q_tw := q_w4 (i := 153) rfl rfl
theorem k_4_155 : Cond.instanceMethod yX7_takesNumber ∈ q_tw := q_w4 (i := 155) rfl rfl
theorem k_4_156 : Cond.code yX7_takesNumber cX7_takesNumber 5 (some .boolean) ∈ q_tw := q_w4 (i := 156) rfl rfl
theorem k_4_157 : Cond.constantLong RX7 130 (48) ∈ q_tw := q_w4 (i := 157) rfl rfl
theorem k_4_158 : Cond.constantLong RX7 132 (57) ∈ q_tw := q_w4 (i := 158) rfl rfl
theorem k_4_159 : Cond.methodLink RX7 142 yX7_takesWord ∈ q_tw := q_w4 (i := 159) rfl rfl
theorem k_4_161 : Cond.instanceMethod yX7_takesWord ∈ q_tw := q_w4 (i := 161) rfl rfl
theorem k_4_162 : Cond.code yX7_takesWord cX7_takesWord 1 (some .boolean) ∈ q_tw := q_w4 (i := 162) rfl rfl
theorem k_4_163 : Cond.methodLink RX7 145 yX7_takesSpeaker ∈ q_tw := q_w4 (i := 163) rfl rfl
theorem k_4_165 : Cond.instanceMethod yX7_takesSpeaker ∈ q_tw := q_w4 (i := 165) rfl rfl
theorem k_4_166 : Cond.code yX7_takesSpeaker cX7_takesSpeaker 2 (some .boolean) ∈ q_tw := q_w4 (i := 166) rfl rfl
theorem k_4_167 : Cond.methodLink RX7 148 yX7_takesFrost ∈ q_tw := q_w4 (i := 167) rfl rfl
theorem k_4_169 : Cond.instanceMethod yX7_takesFrost ∈ q_tw := q_w4 (i := 169) rfl rfl
theorem k_4_170 : Cond.code yX7_takesFrost cX7_takesFrost 1 (some .boolean) ∈ q_tw := q_w4 (i := 170) rfl rfl
theorem k_4_171 : Cond.methodLink RX7 151 yX7_takesPromise ∈ q_tw := q_w4 (i := 171) rfl rfl
theorem k_4_173 : Cond.instanceMethod yX7_takesPromise ∈ q_tw := q_w4 (i := 173) rfl rfl
theorem k_4_174 : Cond.code yX7_takesPromise cX7_takesPromise 3 (some .boolean) ∈ q_tw := q_w4 (i := 174) rfl rfl
theorem k_4_183 : Cond.methodLink RX7 161 yX7_isBlock ∈ q_tw := q_w4 (i := 183) rfl rfl
theorem k_4_185 : Cond.instanceMethod yX7_isBlock ∈ q_tw := q_w4 (i := 185) rfl rfl
theorem k_4_186 : Cond.code yX7_isBlock cX7_isBlock 2 (some .boolean) ∈ q_tw := q_w4 (i := 186) rfl rfl
theorem k_4_191 : Cond.methodLink RX7 165 yX7_isWord ∈ q_tw := q_w4 (i := 191) rfl rfl
theorem k_4_193 : Cond.instanceMethod yX7_isWord ∈ q_tw := q_w4 (i := 193) rfl rfl
theorem k_4_194 : Cond.code yX7_isWord cX7_isWord 2 (some .boolean) ∈ q_tw := q_w4 (i := 194) rfl rfl
theorem k_4_199 : Cond.methodLink RX7 168 yX7_isSpeaker ∈ q_tw := q_w4 (i := 199) rfl rfl
theorem k_4_201 : Cond.instanceMethod yX7_isSpeaker ∈ q_tw := q_w4 (i := 201) rfl rfl
theorem k_4_202 : Cond.code yX7_isSpeaker cX7_isSpeaker 2 (some .boolean) ∈ q_tw := q_w4 (i := 202) rfl rfl
theorem k_4_215 : Cond.methodLink RX7 185 yX7_worthOf ∈ q_tw := q_w4 (i := 215) rfl rfl
theorem k_4_217 : Cond.instanceMethod yX7_worthOf ∈ q_tw := q_w4 (i := 217) rfl rfl
theorem k_4_218 : Cond.code yX7_worthOf cX7_worthOf 5 (some .int) ∈ q_tw := q_w4 (i := 218) rfl rfl
theorem k_4_219 : Cond.methodLink RX7 175 yX7_spoken ∈ q_tw := q_w4 (i := 219) rfl rfl
theorem k_4_221 : Cond.instanceMethod yX7_spoken ∈ q_tw := q_w4 (i := 221) rfl rfl
theorem k_4_222 : Cond.code yX7_spoken cX7_spoken 5 (some .int) ∈ q_tw := q_w4 (i := 222) rfl rfl
theorem k_4_223 : Cond.methodLink RX7 171 yX7_byKind ∈ q_tw := q_w4 (i := 223) rfl rfl
theorem k_4_225 : Cond.instanceMethod yX7_byKind ∈ q_tw := q_w4 (i := 225) rfl rfl
theorem k_4_226 : Cond.code yX7_byKind cX7_byKind 3 (some .int) ∈ q_tw := q_w4 (i := 226) rfl rfl
theorem k_4_227 : Cond.methodLink RX7 179 yX7_heardOf ∈ q_tw := q_w4 (i := 227) rfl rfl
theorem k_4_229 : Cond.instanceMethod yX7_heardOf ∈ q_tw := q_w4 (i := 229) rfl rfl
theorem k_4_230 : Cond.code yX7_heardOf cX7_heardOf 4 (some .int) ∈ q_tw := q_w4 (i := 230) rfl rfl
theorem k_4_231 : Cond.methodLink RX7 182 yX7_less ∈ q_tw := q_w4 (i := 231) rfl rfl
theorem k_4_232 : Cond.static yX7_less ∈ q_tw := q_w4 (i := 232) rfl rfl
theorem k_4_233 : Cond.code yX7_less cX7_less 2 (some .int) ∈ q_tw := q_w4 (i := 233) rfl rfl
theorem k_4_238 : Cond.methodLink RX7 205 yX7_canSay ∈ q_tw := q_w4 (i := 238) rfl rfl
theorem k_5_0 : Cond.instanceMethod yX7_canSay ∈ q_tw := q_w5 (i := 0) rfl rfl
theorem k_5_1 : Cond.code yX7_canSay cX7_canSay 4 (some .boolean) ∈ q_tw := q_w5 (i := 1) rfl rfl
theorem k_5_2 : Cond.methodLink RX7 189 yX7_inBed ∈ q_tw := q_w5 (i := 2) rfl rfl
theorem k_5_4 : Cond.instanceMethod yX7_inBed ∈ q_tw := q_w5 (i := 4) rfl rfl
theorem k_5_5 : Cond.code yX7_inBed cX7_inBed 3 (some .boolean) ∈ q_tw := q_w5 (i := 5) rfl rfl
theorem k_5_6 : Cond.methodLink RX7 208 yX7_minds ∈ q_tw := q_w5 (i := 6) rfl rfl
theorem k_5_8 : Cond.instanceMethod yX7_minds ∈ q_tw := q_w5 (i := 8) rfl rfl
theorem k_5_9 : Cond.code yX7_minds cX7_minds 2 none ∈ q_tw := q_w5 (i := 9) rfl rfl
theorem k_5_10 : Cond.methodLink RX7 202 yX7_copy ∈ q_tw := q_w5 (i := 10) rfl rfl
theorem k_5_12 : Cond.instanceMethod yX7_copy ∈ q_tw := q_w5 (i := 12) rfl rfl
theorem k_5_13 : Cond.code yX7_copy cX7_copy 4 none ∈ q_tw := q_w5 (i := 13) rfl rfl
theorem k_5_14 : Cond.methodLink RX7 211 yX7_says ∈ q_tw := q_w5 (i := 14) rfl rfl
theorem k_5_16 : Cond.instanceMethod yX7_says ∈ q_tw := q_w5 (i := 16) rfl rfl
theorem k_5_17 : Cond.code yX7_says cX7_says 6 none ∈ q_tw := q_w5 (i := 17) rfl rfl
theorem k_5_18 : Cond.methodLink RX7 193 yX7_hears ∈ q_tw := q_w5 (i := 18) rfl rfl
theorem k_5_20 : Cond.instanceMethod yX7_hears ∈ q_tw := q_w5 (i := 20) rfl rfl
theorem k_5_21 : Cond.code yX7_hears cX7_hears 5 (some .boolean) ∈ q_tw := q_w5 (i := 21) rfl rfl
theorem k_5_22 : Cond.methodLink RX7 196 yX7_comes ∈ q_tw := q_w5 (i := 22) rfl rfl
theorem k_5_24 : Cond.instanceMethod yX7_comes ∈ q_tw := q_w5 (i := 24) rfl rfl
theorem k_5_25 : Cond.code yX7_comes cX7_comes 3 none ∈ q_tw := q_w5 (i := 25) rfl rfl
theorem k_5_30 : Cond.constantLong RX7 215 (7) ∈ q_tw := q_w5 (i := 30) rfl rfl
theorem k_5_35 : Cond.methodLink RX7 217 yX7_takesFor ∈ q_tw := q_w5 (i := 35) rfl rfl
theorem k_5_37 : Cond.instanceMethod yX7_takesFor ∈ q_tw := q_w5 (i := 37) rfl rfl
theorem k_5_38 : Cond.code yX7_takesFor cX7_takesFor 4 none ∈ q_tw := q_w5 (i := 38) rfl rfl
theorem k_5_39 : Cond.methodLink RX7 199 yX7_isElse ∈ q_tw := q_w5 (i := 39) rfl rfl
theorem k_5_41 : Cond.instanceMethod yX7_isElse ∈ q_tw := q_w5 (i := 41) rfl rfl
theorem k_5_42 : Cond.code yX7_isElse cX7_isElse 7 (some .boolean) ∈ q_tw := q_w5 (i := 42) rfl rfl
theorem k_5_47 : Cond.constantLong RX7 221 (20) ∈ q_tw := q_w5 (i := 47) rfl rfl
theorem k_5_48 : Cond.methodLink RX7 223 yX7_passes ∈ q_tw := q_w5 (i := 48) rfl rfl
theorem k_5_50 : Cond.instanceMethod yX7_passes ∈ q_tw := q_w5 (i := 50) rfl rfl
theorem k_5_51 : Cond.code yX7_passes cX7_passes 3 none ∈ q_tw := q_w5 (i := 51) rfl rfl
theorem k_5_60 : Cond.methodLink RX7 226 yX7_bringsOut ∈ q_tw := q_w5 (i := 60) rfl rfl
theorem k_5_62 : Cond.instanceMethod yX7_bringsOut ∈ q_tw := q_w5 (i := 62) rfl rfl
theorem k_5_63 : Cond.code yX7_bringsOut cX7_bringsOut 7 (some .boolean) ∈ q_tw := q_w5 (i := 63) rfl rfl
theorem k_5_68 : Cond.methodLink RX7 229 yX7_bestOf ∈ q_tw := q_w5 (i := 68) rfl rfl
theorem k_5_70 : Cond.instanceMethod yX7_bestOf ∈ q_tw := q_w5 (i := 70) rfl rfl
theorem k_5_71 : Cond.code yX7_bestOf cX7_bestOf 8 (some .int) ∈ q_tw := q_w5 (i := 71) rfl rfl
theorem k_5_76 : Cond.methodLink RX7 244 yX7_bestOrder ∈ q_tw := q_w5 (i := 76) rfl rfl
theorem k_5_78 : Cond.instanceMethod yX7_bestOrder ∈ q_tw := q_w5 (i := 78) rfl rfl
theorem k_5_79 : Cond.code yX7_bestOrder cX7_bestOrder 9 (some .int) ∈ q_tw := q_w5 (i := 79) rfl rfl
theorem k_5_80 : Cond.methodLink RX7 232 yX7_bedOf ∈ q_tw := q_w5 (i := 80) rfl rfl
theorem k_5_82 : Cond.instanceMethod yX7_bedOf ∈ q_tw := q_w5 (i := 82) rfl rfl
theorem k_5_83 : Cond.code yX7_bedOf cX7_bedOf 3 (some .int) ∈ q_tw := q_w5 (i := 83) rfl rfl
theorem k_5_84 : Cond.methodLink RX7 235 yX7_ones ∈ q_tw := q_w5 (i := 84) rfl rfl
theorem k_5_85 : Cond.static yX7_ones ∈ q_tw := q_w5 (i := 85) rfl rfl
theorem k_5_86 : Cond.code yX7_ones cX7_ones 3 (some .int) ∈ q_tw := q_w5 (i := 86) rfl rfl
theorem k_5_87 : Cond.methodLink RX7 238 yX7_has ∈ q_tw := q_w5 (i := 87) rfl rfl
theorem k_5_88 : Cond.static yX7_has ∈ q_tw := q_w5 (i := 88) rfl rfl
theorem k_5_89 : Cond.code yX7_has cX7_has 2 (some .boolean) ∈ q_tw := q_w5 (i := 89) rfl rfl
theorem k_5_90 : Cond.methodLink RX7 241 yX7_asks ∈ q_tw := q_w5 (i := 90) rfl rfl
theorem k_5_92 : Cond.instanceMethod yX7_asks ∈ q_tw := q_w5 (i := 92) rfl rfl
theorem k_5_93 : Cond.code yX7_asks cX7_asks 4 none ∈ q_tw := q_w5 (i := 93) rfl rfl
theorem k_5_98 : Cond.methodLink RX7 247 yX7_tries ∈ q_tw := q_w5 (i := 98) rfl rfl
theorem k_5_100 : Cond.instanceMethod yX7_tries ∈ q_tw := q_w5 (i := 100) rfl rfl
theorem k_5_101 : Cond.code yX7_tries cX7_tries 1 none ∈ q_tw := q_w5 (i := 101) rfl rfl
theorem k_5_102 : Cond.methodLink RX7 250 yX7_bestWord ∈ q_tw := q_w5 (i := 102) rfl rfl
theorem k_5_104 : Cond.instanceMethod yX7_bestWord ∈ q_tw := q_w5 (i := 104) rfl rfl
theorem k_5_105 : Cond.code yX7_bestWord cX7_bestWord 7 (some .int) ∈ q_tw := q_w5 (i := 105) rfl rfl
theorem k_5_118 : Cond.constant RX7 253 (1000000) ∈ q_tw := q_w5 (i := 118) rfl rfl
theorem k_5_119 : Cond.methodLink RX7 254 yX7_harmOf ∈ q_tw := q_w5 (i := 119) rfl rfl
theorem k_5_121 : Cond.instanceMethod yX7_harmOf ∈ q_tw := q_w5 (i := 121) rfl rfl
theorem k_5_122 : Cond.code yX7_harmOf cX7_harmOf 5 (some .int) ∈ q_tw := q_w5 (i := 122) rfl rfl
theorem k_5_127 : Cond.methodLink RX7 257 yX7_lies ∈ q_tw := q_w5 (i := 127) rfl rfl
theorem k_5_129 : Cond.instanceMethod yX7_lies ∈ q_tw := q_w5 (i := 129) rfl rfl
theorem k_5_130 : Cond.code yX7_lies cX7_lies 6 (some .boolean) ∈ q_tw := q_w5 (i := 130) rfl rfl
theorem k_5_135 : Cond.constantLong RX7 260 (99) ∈ q_tw := q_w5 (i := 135) rfl rfl
theorem k_5_140 : Cond.constantLong RX7 262 (8) ∈ q_tw := q_w5 (i := 140) rfl rfl
theorem k_5_141 : Cond.constantLong RX7 264 (10) ∈ q_tw := q_w5 (i := 141) rfl rfl
theorem k_5_146 : Cond.constantLong RX7 266 (9999) ∈ q_tw := q_w5 (i := 146) rfl rfl
theorem k_5_147 : Cond.constantLong RX7 268 (60) ∈ q_tw := q_w5 (i := 147) rfl rfl
theorem k_5_148 : Cond.constantLong RX7 270 (7919) ∈ q_tw := q_w5 (i := 148) rfl rfl
theorem k_5_149 : Cond.constantLong RX7 272 (6151) ∈ q_tw := q_w5 (i := 149) rfl rfl
theorem k_5_150 : Cond.constantLong RX7 274 (65521) ∈ q_tw := q_w5 (i := 150) rfl rfl
theorem k_5_151 : Cond.methodLink RX7 276 yX7_doesBy ∈ q_tw := q_w5 (i := 151) rfl rfl
theorem k_5_153 : Cond.instanceMethod yX7_doesBy ∈ q_tw := q_w5 (i := 153) rfl rfl
theorem k_5_154 : Cond.code yX7_doesBy cX7_doesBy 5 none ∈ q_tw := q_w5 (i := 154) rfl rfl
theorem k_5_155 : Cond.methodLink RX7 279 yX7_manyHow ∈ q_tw := q_w5 (i := 155) rfl rfl
theorem k_5_157 : Cond.instanceMethod yX7_manyHow ∈ q_tw := q_w5 (i := 157) rfl rfl
theorem k_5_158 : Cond.code yX7_manyHow cX7_manyHow 5 (some .int) ∈ q_tw := q_w5 (i := 158) rfl rfl
end
section
theorem d_X0_clear_0 : decode cX0_clear 0 = .ok (.aload_n 0, 1) := by decide +kernel
theorem d_X0_clear_1 : decode cX0_clear 1 = .ok (.iconst 0, 1) := by decide +kernel
theorem d_X0_clear_2 : decode cX0_clear 2 = .ok (.putfield 36, 3) := by decide +kernel
theorem d_X0_clear_5 : decode cX0_clear 5 = .ok (.aload_n 0, 1) := by decide +kernel
theorem d_X0_clear_6 : decode cX0_clear 6 = .ok (.iconst 0, 1) := by decide +kernel
theorem d_X0_clear_7 : decode cX0_clear 7 = .ok (.putfield 40, 3) := by decide +kernel
theorem d_X0_clear_10 : decode cX0_clear 10 = .ok (.aload_n 0, 1) := by decide +kernel
theorem d_X0_clear_11 : decode cX0_clear 11 = .ok (.iconst 0, 1) := by decide +kernel
theorem d_X0_clear_12 : decode cX0_clear 12 = .ok (.putfield 43, 3) := by decide +kernel
theorem d_X0_clear_15 : decode cX0_clear 15 = .ok (.aload_n 0, 1) := by decide +kernel
theorem d_X0_clear_16 : decode cX0_clear 16 = .ok (.iconst 1, 1) := by decide +kernel
theorem d_X0_clear_17 : decode cX0_clear 17 = .ok (.putfield 46, 3) := by decide +kernel
theorem d_X0_clear_20 : decode cX0_clear 20 = .ok (.aload_n 0, 1) := by decide +kernel
theorem d_X0_clear_21 : decode cX0_clear 21 = .ok (.getfield 27, 3) := by decide +kernel
theorem d_X0_clear_24 : decode cX0_clear 24 = .ok (.bipush (-4), 2) := by decide +kernel
theorem d_X0_clear_26 : decode cX0_clear 26 = .ok (.invokestatic 49, 3) := by decide +kernel
theorem d_X0_clear_29 : decode cX0_clear 29 = .ok (.return_, 1) := by decide +kernel
def t_X0_clear_0 : List (Nat × QO) := [(0, o_al 0 1), (1, o_k 0 2), (2, o_pf 0 0 5), (5, o_al 0 6), (6, o_k 0 7), (7, o_pf 0 1 10), (10, o_al 0 11), (11, o_k 0 12), (12, o_pf 0 2 15), (15, o_al 0 16), (16, o_k 1 17), (17, o_pf 0 3 20)]
theorem ts_X0_clear_0 (sx : QX) : ∀ q ∈ t_X0_clear_0, q_Snd sx RX0 cX0_clear 1 none q.1 q.2 := List.forall_mem_cons.mpr ⟨s_aload_n d_X0_clear_0 rfl, List.forall_mem_cons.mpr ⟨s_iconst d_X0_clear_1 rfl, List.forall_mem_cons.mpr ⟨s_pf tyX0 d_X0_clear_2 rfl (by decide) n_X0 in_X0 rfl k_1_50 tyX0_ok nmX0 rfl rfl, List.forall_mem_cons.mpr ⟨s_aload_n d_X0_clear_5 rfl, List.forall_mem_cons.mpr ⟨s_iconst d_X0_clear_6 rfl, List.forall_mem_cons.mpr ⟨s_pf tyX0 d_X0_clear_7 rfl (by decide) n_X0 in_X0 rfl k_1_54 tyX0_ok nmX0 rfl rfl, List.forall_mem_cons.mpr ⟨s_aload_n d_X0_clear_10 rfl, List.forall_mem_cons.mpr ⟨s_iconst d_X0_clear_11 rfl, List.forall_mem_cons.mpr ⟨s_pf tyX0 d_X0_clear_12 rfl (by decide) n_X0 in_X0 rfl k_1_58 tyX0_ok nmX0 rfl rfl, List.forall_mem_cons.mpr ⟨s_aload_n d_X0_clear_15 rfl, List.forall_mem_cons.mpr ⟨s_iconst d_X0_clear_16 rfl, List.forall_mem_cons.mpr ⟨s_pf tyX0 d_X0_clear_17 rfl (by decide) n_X0 in_X0 rfl k_1_62 tyX0_ok nmX0 rfl rfl, fun _ h => absurd h List.not_mem_nil⟩⟩⟩⟩⟩⟩⟩⟩⟩⟩⟩⟩
def t_X0_clear_1 : List (Nat × QO) := [(20, o_al 0 21), (21, o_gf 0 9 24), (24, o_k (-4) 26), (26, o_cS 0 99 3 2 29), (29, o_vr)]
theorem ts_X0_clear_1 (sx : QX) : ∀ q ∈ t_X0_clear_1, q_Snd sx RX0 cX0_clear 1 none q.1 q.2 := List.forall_mem_cons.mpr ⟨s_aload_n d_X0_clear_20 rfl, List.forall_mem_cons.mpr ⟨s_gf d_X0_clear_21 rfl (by decide) n_X0 in_X0 rfl k_1_76, List.forall_mem_cons.mpr ⟨s_bipush d_X0_clear_24 rfl, List.forall_mem_cons.mpr ⟨s_cN (host := "StoneApologies") rfl d_X0_clear_26 (List.mem_of_getElem? (i := 3) rfl) k_2_38 k_1_1 k_2_39 ⟨by decide, by decide⟩ (by decide +kernel) (by decide), List.forall_mem_cons.mpr ⟨s_vr d_X0_clear_29 rfl, fun _ h => absurd h List.not_mem_nil⟩⟩⟩⟩⟩
def t_X0_clear (pc : Nat) : Option QO := cond (Nat.ble pc 17) (q_look (t_X0_clear_0) pc) (q_look (t_X0_clear_1) pc)
theorem ts_X0_clear (sx : QX) (pc : Nat) : ∀ o, t_X0_clear pc = some o → q_Snd sx RX0 cX0_clear 1 none pc o := by
  unfold t_X0_clear
  exact q_cb (q_look_all (ts_X0_clear_0 sx)) (q_look_all (ts_X0_clear_1 sx))
theorem d_X0_isWhole_0 : decode cX0_isWhole 0 = .ok (.aload_n 0, 1) := by decide +kernel
theorem d_X0_isWhole_1 : decode cX0_isWhole 1 = .ok (.getfield 36, 3) := by decide +kernel
theorem d_X0_isWhole_4 : decode cX0_isWhole 4 = .ok (.ifCond .le 21, 3) := by decide +kernel
theorem d_X0_isWhole_7 : decode cX0_isWhole 7 = .ok (.aload_n 0, 1) := by decide +kernel
theorem d_X0_isWhole_8 : decode cX0_isWhole 8 = .ok (.getfield 40, 3) := by decide +kernel
theorem d_X0_isWhole_11 : decode cX0_isWhole 11 = .ok (.ifCond .le 14, 3) := by decide +kernel
theorem d_X0_isWhole_14 : decode cX0_isWhole 14 = .ok (.aload_n 0, 1) := by decide +kernel
theorem d_X0_isWhole_15 : decode cX0_isWhole 15 = .ok (.getfield 43, 3) := by decide +kernel
theorem d_X0_isWhole_18 : decode cX0_isWhole 18 = .ok (.ifCond .le 7, 3) := by decide +kernel
theorem d_X0_isWhole_21 : decode cX0_isWhole 21 = .ok (.iconst 1, 1) := by decide +kernel
theorem d_X0_isWhole_22 : decode cX0_isWhole 22 = .ok (.goto 4, 3) := by decide +kernel
theorem d_X0_isWhole_25 : decode cX0_isWhole 25 = .ok (.iconst 0, 1) := by decide +kernel
theorem d_X0_isWhole_26 : decode cX0_isWhole 26 = .ok (.ireturn, 1) := by decide +kernel
def t_X0_isWhole_0 : List (Nat × QO) := [(0, o_al 0 1), (1, o_gf 0 0 4), (4, o_if (fun x => decide (x ≤ 0)) 25 7), (7, o_al 0 8), (8, o_gf 0 1 11), (11, o_if (fun x => decide (x ≤ 0)) 25 14), (14, o_al 0 15), (15, o_gf 0 2 18), (18, o_if (fun x => decide (x ≤ 0)) 25 21), (21, o_k 1 22), (22, o_goto 26), (25, o_k 0 26)]
theorem ts_X0_isWhole_0 (sx : QX) : ∀ q ∈ t_X0_isWhole_0, q_Snd sx RX0 cX0_isWhole 1 (some .boolean) q.1 q.2 := List.forall_mem_cons.mpr ⟨s_aload_n d_X0_isWhole_0 rfl, List.forall_mem_cons.mpr ⟨s_gf d_X0_isWhole_1 rfl (by decide) n_X0 in_X0 rfl k_1_50, List.forall_mem_cons.mpr ⟨s_if_le d_X0_isWhole_4 (by decide), List.forall_mem_cons.mpr ⟨s_aload_n d_X0_isWhole_7 rfl, List.forall_mem_cons.mpr ⟨s_gf d_X0_isWhole_8 rfl (by decide) n_X0 in_X0 rfl k_1_54, List.forall_mem_cons.mpr ⟨s_if_le d_X0_isWhole_11 (by decide), List.forall_mem_cons.mpr ⟨s_aload_n d_X0_isWhole_14 rfl, List.forall_mem_cons.mpr ⟨s_gf d_X0_isWhole_15 rfl (by decide) n_X0 in_X0 rfl k_1_58, List.forall_mem_cons.mpr ⟨s_if_le d_X0_isWhole_18 (by decide), List.forall_mem_cons.mpr ⟨s_iconst d_X0_isWhole_21 rfl, List.forall_mem_cons.mpr ⟨s_goto d_X0_isWhole_22 (by decide), List.forall_mem_cons.mpr ⟨s_iconst d_X0_isWhole_25 rfl, fun _ h => absurd h List.not_mem_nil⟩⟩⟩⟩⟩⟩⟩⟩⟩⟩⟩⟩
def t_X0_isWhole_1 : List (Nat × QO) := [(26, o_ir true)]
theorem ts_X0_isWhole_1 (sx : QX) : ∀ q ∈ t_X0_isWhole_1, q_Snd sx RX0 cX0_isWhole 1 (some .boolean) q.1 q.2 := List.forall_mem_cons.mpr ⟨s_zr d_X0_isWhole_26 rfl, fun _ h => absurd h List.not_mem_nil⟩
def t_X0_isWhole (pc : Nat) : Option QO := cond (Nat.ble pc 25) (q_look (t_X0_isWhole_0) pc) (q_look (t_X0_isWhole_1) pc)
theorem ts_X0_isWhole (sx : QX) (pc : Nat) : ∀ o, t_X0_isWhole pc = some o → q_Snd sx RX0 cX0_isWhole 1 (some .boolean) pc o := by
  unfold t_X0_isWhole
  exact q_cb (q_look_all (ts_X0_isWhole_0 sx)) (q_look_all (ts_X0_isWhole_1 sx))
theorem d_X0_addBlock_0 : decode cX0_addBlock 0 = .ok (.aload_n 0, 1) := by decide +kernel
theorem d_X0_addBlock_1 : decode cX0_addBlock 1 = .ok (.getfield 36, 3) := by decide +kernel
theorem d_X0_addBlock_4 : decode cX0_addBlock 4 = .ok (.bipush 6, 2) := by decide +kernel
theorem d_X0_addBlock_6 : decode cX0_addBlock 6 = .ok (.if_icmp .ge 19, 3) := by decide +kernel
theorem d_X0_addBlock_9 : decode cX0_addBlock 9 = .ok (.iload_n 1, 1) := by decide +kernel
theorem d_X0_addBlock_10 : decode cX0_addBlock 10 = .ok (.iconst 4, 1) := by decide +kernel
theorem d_X0_addBlock_11 : decode cX0_addBlock 11 = .ok (.if_icmp .ge 14, 3) := by decide +kernel
theorem d_X0_addBlock_14 : decode cX0_addBlock 14 = .ok (.iload_n 2, 1) := by decide +kernel
theorem d_X0_addBlock_15 : decode cX0_addBlock 15 = .ok (.iconst 1, 1) := by decide +kernel
theorem d_X0_addBlock_16 : decode cX0_addBlock 16 = .ok (.if_icmp .lt 9, 3) := by decide +kernel
theorem d_X0_addBlock_19 : decode cX0_addBlock 19 = .ok (.iload_n 2, 1) := by decide +kernel
theorem d_X0_addBlock_20 : decode cX0_addBlock 20 = .ok (.bipush 60, 2) := by decide +kernel
theorem d_X0_addBlock_22 : decode cX0_addBlock 22 = .ok (.if_icmp .le 5, 3) := by decide +kernel
theorem d_X0_addBlock_25 : decode cX0_addBlock 25 = .ok (.iconst 0, 1) := by decide +kernel
theorem d_X0_addBlock_26 : decode cX0_addBlock 26 = .ok (.ireturn, 1) := by decide +kernel
theorem d_X0_addBlock_27 : decode cX0_addBlock 27 = .ok (.aload_n 0, 1) := by decide +kernel
theorem d_X0_addBlock_28 : decode cX0_addBlock 28 = .ok (.getfield 9, 3) := by decide +kernel
theorem d_X0_addBlock_31 : decode cX0_addBlock 31 = .ok (.aload_n 0, 1) := by decide +kernel
theorem d_X0_addBlock_32 : decode cX0_addBlock 32 = .ok (.getfield 36, 3) := by decide +kernel
theorem d_X0_addBlock_35 : decode cX0_addBlock 35 = .ok (.iload_n 1, 1) := by decide +kernel
theorem d_X0_addBlock_36 : decode cX0_addBlock 36 = .ok (.invokestatic 53, 3) := by decide +kernel
theorem d_X0_addBlock_39 : decode cX0_addBlock 39 = .ok (.aload_n 0, 1) := by decide +kernel
theorem d_X0_addBlock_40 : decode cX0_addBlock 40 = .ok (.getfield 15, 3) := by decide +kernel
theorem d_X0_addBlock_43 : decode cX0_addBlock 43 = .ok (.aload_n 0, 1) := by decide +kernel
theorem d_X0_addBlock_44 : decode cX0_addBlock 44 = .ok (.getfield 36, 3) := by decide +kernel
theorem d_X0_addBlock_47 : decode cX0_addBlock 47 = .ok (.iload_n 2, 1) := by decide +kernel
theorem d_X0_addBlock_48 : decode cX0_addBlock 48 = .ok (.invokestatic 53, 3) := by decide +kernel
theorem d_X0_addBlock_51 : decode cX0_addBlock 51 = .ok (.aload_n 0, 1) := by decide +kernel
theorem d_X0_addBlock_52 : decode cX0_addBlock 52 = .ok (.dup, 1) := by decide +kernel
theorem d_X0_addBlock_53 : decode cX0_addBlock 53 = .ok (.getfield 36, 3) := by decide +kernel
theorem d_X0_addBlock_56 : decode cX0_addBlock 56 = .ok (.iconst 1, 1) := by decide +kernel
theorem d_X0_addBlock_57 : decode cX0_addBlock 57 = .ok (.iadd, 1) := by decide +kernel
theorem d_X0_addBlock_58 : decode cX0_addBlock 58 = .ok (.putfield 36, 3) := by decide +kernel
theorem d_X0_addBlock_61 : decode cX0_addBlock 61 = .ok (.iconst 1, 1) := by decide +kernel
theorem d_X0_addBlock_62 : decode cX0_addBlock 62 = .ok (.ireturn, 1) := by decide +kernel
def t_X0_addBlock_0 : List (Nat × QO) := [(0, o_al 0 1), (1, o_gf 0 0 4), (4, o_k 6 6), (6, o_ic (fun x y => decide (y ≤ x)) 25 9), (9, o_il 1 10), (10, o_k 4 11), (11, o_ic (fun x y => decide (y ≤ x)) 25 14), (14, o_il 2 15), (15, o_k 1 16), (16, o_ic (fun x y => decide (x < y)) 25 19), (19, o_il 2 20), (20, o_k 60 22)]
theorem ts_X0_addBlock_0 (sx : QX) : ∀ q ∈ t_X0_addBlock_0, q_Snd sx RX0 cX0_addBlock 3 (some .boolean) q.1 q.2 := List.forall_mem_cons.mpr ⟨s_aload_n d_X0_addBlock_0 rfl, List.forall_mem_cons.mpr ⟨s_gf d_X0_addBlock_1 rfl (by decide) n_X0 in_X0 rfl k_1_50, List.forall_mem_cons.mpr ⟨s_bipush d_X0_addBlock_4 rfl, List.forall_mem_cons.mpr ⟨s_ic_ge d_X0_addBlock_6 (by decide), List.forall_mem_cons.mpr ⟨s_iload_n d_X0_addBlock_9 rfl, List.forall_mem_cons.mpr ⟨s_iconst d_X0_addBlock_10 rfl, List.forall_mem_cons.mpr ⟨s_ic_ge d_X0_addBlock_11 (by decide), List.forall_mem_cons.mpr ⟨s_iload_n d_X0_addBlock_14 rfl, List.forall_mem_cons.mpr ⟨s_iconst d_X0_addBlock_15 rfl, List.forall_mem_cons.mpr ⟨s_ic_lt d_X0_addBlock_16 (by decide), List.forall_mem_cons.mpr ⟨s_iload_n d_X0_addBlock_19 rfl, List.forall_mem_cons.mpr ⟨s_bipush d_X0_addBlock_20 rfl, fun _ h => absurd h List.not_mem_nil⟩⟩⟩⟩⟩⟩⟩⟩⟩⟩⟩⟩
def t_X0_addBlock_1 : List (Nat × QO) := [(22, o_ic (fun x y => decide (x ≤ y)) 27 25), (25, o_k 0 26), (26, o_ir true), (27, o_al 0 28), (28, o_gf 0 4 31), (31, o_al 0 32), (32, o_gf 0 0 35), (35, o_il 1 36), (36, o_cS 0 98 3 3 39), (39, o_al 0 40), (40, o_gf 0 5 43), (43, o_al 0 44)]
theorem ts_X0_addBlock_1 (sx : QX) : ∀ q ∈ t_X0_addBlock_1, q_Snd sx RX0 cX0_addBlock 3 (some .boolean) q.1 q.2 := List.forall_mem_cons.mpr ⟨s_ic_le d_X0_addBlock_22 (by decide), List.forall_mem_cons.mpr ⟨s_iconst d_X0_addBlock_25 rfl, List.forall_mem_cons.mpr ⟨s_zr d_X0_addBlock_26 rfl, List.forall_mem_cons.mpr ⟨s_aload_n d_X0_addBlock_27 rfl, List.forall_mem_cons.mpr ⟨s_gf d_X0_addBlock_28 rfl (by decide) n_X0 in_X0 rfl k_1_63, List.forall_mem_cons.mpr ⟨s_aload_n d_X0_addBlock_31 rfl, List.forall_mem_cons.mpr ⟨s_gf d_X0_addBlock_32 rfl (by decide) n_X0 in_X0 rfl k_1_50, List.forall_mem_cons.mpr ⟨s_iload_n d_X0_addBlock_35 rfl, List.forall_mem_cons.mpr ⟨s_cN (host := "StoneApologies") rfl d_X0_addBlock_36 (List.mem_of_getElem? (i := 5) rfl) k_2_23 k_1_1 k_2_24 ⟨by decide, by decide⟩ (by decide +kernel) (by decide), List.forall_mem_cons.mpr ⟨s_aload_n d_X0_addBlock_39 rfl, List.forall_mem_cons.mpr ⟨s_gf d_X0_addBlock_40 rfl (by decide) n_X0 in_X0 rfl k_1_66, List.forall_mem_cons.mpr ⟨s_aload_n d_X0_addBlock_43 rfl, fun _ h => absurd h List.not_mem_nil⟩⟩⟩⟩⟩⟩⟩⟩⟩⟩⟩⟩
def t_X0_addBlock_2 : List (Nat × QO) := [(44, o_gf 0 0 47), (47, o_il 2 48), (48, o_cS 0 98 3 3 51), (51, o_al 0 52), (52, o_dup 53), (53, o_gf 0 0 56), (56, o_k 1 57), (57, o_b (fun x y => x + y) 58), (58, o_pf 0 0 61), (61, o_k 1 62), (62, o_ir true)]
theorem ts_X0_addBlock_2 (sx : QX) : ∀ q ∈ t_X0_addBlock_2, q_Snd sx RX0 cX0_addBlock 3 (some .boolean) q.1 q.2 := List.forall_mem_cons.mpr ⟨s_gf d_X0_addBlock_44 rfl (by decide) n_X0 in_X0 rfl k_1_50, List.forall_mem_cons.mpr ⟨s_iload_n d_X0_addBlock_47 rfl, List.forall_mem_cons.mpr ⟨s_cN (host := "StoneApologies") rfl d_X0_addBlock_48 (List.mem_of_getElem? (i := 5) rfl) k_2_23 k_1_1 k_2_24 ⟨by decide, by decide⟩ (by decide +kernel) (by decide), List.forall_mem_cons.mpr ⟨s_aload_n d_X0_addBlock_51 rfl, List.forall_mem_cons.mpr ⟨s_dup d_X0_addBlock_52, List.forall_mem_cons.mpr ⟨s_gf d_X0_addBlock_53 rfl (by decide) n_X0 in_X0 rfl k_1_50, List.forall_mem_cons.mpr ⟨s_iconst d_X0_addBlock_56 rfl, List.forall_mem_cons.mpr ⟨s_iadd d_X0_addBlock_57, List.forall_mem_cons.mpr ⟨s_pf tyX0 d_X0_addBlock_58 rfl (by decide) n_X0 in_X0 rfl k_1_50 tyX0_ok nmX0 rfl rfl, List.forall_mem_cons.mpr ⟨s_iconst d_X0_addBlock_61 rfl, List.forall_mem_cons.mpr ⟨s_zr d_X0_addBlock_62 rfl, fun _ h => absurd h List.not_mem_nil⟩⟩⟩⟩⟩⟩⟩⟩⟩⟩⟩
def t_X0_addBlock (pc : Nat) : Option QO := cond (Nat.ble pc 20) (q_look (t_X0_addBlock_0) pc) (cond (Nat.ble pc 43) (q_look (t_X0_addBlock_1) pc) (q_look (t_X0_addBlock_2) pc))
theorem ts_X0_addBlock (sx : QX) (pc : Nat) : ∀ o, t_X0_addBlock pc = some o → q_Snd sx RX0 cX0_addBlock 3 (some .boolean) pc o := by
  unfold t_X0_addBlock
  exact q_cb (q_look_all (ts_X0_addBlock_0 sx)) (q_cb (q_look_all (ts_X0_addBlock_1 sx)) (q_look_all (ts_X0_addBlock_2 sx)))
theorem d_X0_addWord_0 : decode cX0_addWord 0 = .ok (.aload_n 0, 1) := by decide +kernel
theorem d_X0_addWord_1 : decode cX0_addWord 1 = .ok (.getfield 40, 3) := by decide +kernel
theorem d_X0_addWord_4 : decode cX0_addWord 4 = .ok (.bipush 6, 2) := by decide +kernel
theorem d_X0_addWord_6 : decode cX0_addWord 6 = .ok (.if_icmp .ge 14, 3) := by decide +kernel
theorem d_X0_addWord_9 : decode cX0_addWord 9 = .ok (.iload_n 1, 1) := by decide +kernel
theorem d_X0_addWord_10 : decode cX0_addWord 10 = .ok (.iconst 1, 1) := by decide +kernel
theorem d_X0_addWord_11 : decode cX0_addWord 11 = .ok (.if_icmp .lt 9, 3) := by decide +kernel
theorem d_X0_addWord_14 : decode cX0_addWord 14 = .ok (.iload_n 1, 1) := by decide +kernel
theorem d_X0_addWord_15 : decode cX0_addWord 15 = .ok (.bipush 20, 2) := by decide +kernel
theorem d_X0_addWord_17 : decode cX0_addWord 17 = .ok (.if_icmp .le 5, 3) := by decide +kernel
theorem d_X0_addWord_20 : decode cX0_addWord 20 = .ok (.iconst 0, 1) := by decide +kernel
theorem d_X0_addWord_21 : decode cX0_addWord 21 = .ok (.ireturn, 1) := by decide +kernel
theorem d_X0_addWord_22 : decode cX0_addWord 22 = .ok (.aload_n 0, 1) := by decide +kernel
theorem d_X0_addWord_23 : decode cX0_addWord 23 = .ok (.getfield 18, 3) := by decide +kernel
theorem d_X0_addWord_26 : decode cX0_addWord 26 = .ok (.aload_n 0, 1) := by decide +kernel
theorem d_X0_addWord_27 : decode cX0_addWord 27 = .ok (.getfield 40, 3) := by decide +kernel
theorem d_X0_addWord_30 : decode cX0_addWord 30 = .ok (.iload_n 1, 1) := by decide +kernel
theorem d_X0_addWord_31 : decode cX0_addWord 31 = .ok (.invokestatic 53, 3) := by decide +kernel
theorem d_X0_addWord_34 : decode cX0_addWord 34 = .ok (.aload_n 0, 1) := by decide +kernel
theorem d_X0_addWord_35 : decode cX0_addWord 35 = .ok (.dup, 1) := by decide +kernel
theorem d_X0_addWord_36 : decode cX0_addWord 36 = .ok (.getfield 40, 3) := by decide +kernel
theorem d_X0_addWord_39 : decode cX0_addWord 39 = .ok (.iconst 1, 1) := by decide +kernel
theorem d_X0_addWord_40 : decode cX0_addWord 40 = .ok (.iadd, 1) := by decide +kernel
theorem d_X0_addWord_41 : decode cX0_addWord 41 = .ok (.putfield 40, 3) := by decide +kernel
theorem d_X0_addWord_44 : decode cX0_addWord 44 = .ok (.iconst 1, 1) := by decide +kernel
theorem d_X0_addWord_45 : decode cX0_addWord 45 = .ok (.ireturn, 1) := by decide +kernel
def t_X0_addWord_0 : List (Nat × QO) := [(0, o_al 0 1), (1, o_gf 0 1 4), (4, o_k 6 6), (6, o_ic (fun x y => decide (y ≤ x)) 20 9), (9, o_il 1 10), (10, o_k 1 11), (11, o_ic (fun x y => decide (x < y)) 20 14), (14, o_il 1 15), (15, o_k 20 17), (17, o_ic (fun x y => decide (x ≤ y)) 22 20), (20, o_k 0 21), (21, o_ir true)]
theorem ts_X0_addWord_0 (sx : QX) : ∀ q ∈ t_X0_addWord_0, q_Snd sx RX0 cX0_addWord 2 (some .boolean) q.1 q.2 := List.forall_mem_cons.mpr ⟨s_aload_n d_X0_addWord_0 rfl, List.forall_mem_cons.mpr ⟨s_gf d_X0_addWord_1 rfl (by decide) n_X0 in_X0 rfl k_1_54, List.forall_mem_cons.mpr ⟨s_bipush d_X0_addWord_4 rfl, List.forall_mem_cons.mpr ⟨s_ic_ge d_X0_addWord_6 (by decide), List.forall_mem_cons.mpr ⟨s_iload_n d_X0_addWord_9 rfl, List.forall_mem_cons.mpr ⟨s_iconst d_X0_addWord_10 rfl, List.forall_mem_cons.mpr ⟨s_ic_lt d_X0_addWord_11 (by decide), List.forall_mem_cons.mpr ⟨s_iload_n d_X0_addWord_14 rfl, List.forall_mem_cons.mpr ⟨s_bipush d_X0_addWord_15 rfl, List.forall_mem_cons.mpr ⟨s_ic_le d_X0_addWord_17 (by decide), List.forall_mem_cons.mpr ⟨s_iconst d_X0_addWord_20 rfl, List.forall_mem_cons.mpr ⟨s_zr d_X0_addWord_21 rfl, fun _ h => absurd h List.not_mem_nil⟩⟩⟩⟩⟩⟩⟩⟩⟩⟩⟩⟩
def t_X0_addWord_1 : List (Nat × QO) := [(22, o_al 0 23), (23, o_gf 0 6 26), (26, o_al 0 27), (27, o_gf 0 1 30), (30, o_il 1 31), (31, o_cS 0 98 3 3 34), (34, o_al 0 35), (35, o_dup 36), (36, o_gf 0 1 39), (39, o_k 1 40), (40, o_b (fun x y => x + y) 41), (41, o_pf 0 1 44)]
theorem ts_X0_addWord_1 (sx : QX) : ∀ q ∈ t_X0_addWord_1, q_Snd sx RX0 cX0_addWord 2 (some .boolean) q.1 q.2 := List.forall_mem_cons.mpr ⟨s_aload_n d_X0_addWord_22 rfl, List.forall_mem_cons.mpr ⟨s_gf d_X0_addWord_23 rfl (by decide) n_X0 in_X0 rfl k_1_69, List.forall_mem_cons.mpr ⟨s_aload_n d_X0_addWord_26 rfl, List.forall_mem_cons.mpr ⟨s_gf d_X0_addWord_27 rfl (by decide) n_X0 in_X0 rfl k_1_54, List.forall_mem_cons.mpr ⟨s_iload_n d_X0_addWord_30 rfl, List.forall_mem_cons.mpr ⟨s_cN (host := "StoneApologies") rfl d_X0_addWord_31 (List.mem_of_getElem? (i := 5) rfl) k_2_23 k_1_1 k_2_24 ⟨by decide, by decide⟩ (by decide +kernel) (by decide), List.forall_mem_cons.mpr ⟨s_aload_n d_X0_addWord_34 rfl, List.forall_mem_cons.mpr ⟨s_dup d_X0_addWord_35, List.forall_mem_cons.mpr ⟨s_gf d_X0_addWord_36 rfl (by decide) n_X0 in_X0 rfl k_1_54, List.forall_mem_cons.mpr ⟨s_iconst d_X0_addWord_39 rfl, List.forall_mem_cons.mpr ⟨s_iadd d_X0_addWord_40, List.forall_mem_cons.mpr ⟨s_pf tyX0 d_X0_addWord_41 rfl (by decide) n_X0 in_X0 rfl k_1_54 tyX0_ok nmX0 rfl rfl, fun _ h => absurd h List.not_mem_nil⟩⟩⟩⟩⟩⟩⟩⟩⟩⟩⟩⟩
def t_X0_addWord_2 : List (Nat × QO) := [(44, o_k 1 45), (45, o_ir true)]
theorem ts_X0_addWord_2 (sx : QX) : ∀ q ∈ t_X0_addWord_2, q_Snd sx RX0 cX0_addWord 2 (some .boolean) q.1 q.2 := List.forall_mem_cons.mpr ⟨s_iconst d_X0_addWord_44 rfl, List.forall_mem_cons.mpr ⟨s_zr d_X0_addWord_45 rfl, fun _ h => absurd h List.not_mem_nil⟩⟩
def t_X0_addWord (pc : Nat) : Option QO := cond (Nat.ble pc 21) (q_look (t_X0_addWord_0) pc) (cond (Nat.ble pc 41) (q_look (t_X0_addWord_1) pc) (q_look (t_X0_addWord_2) pc))
theorem ts_X0_addWord (sx : QX) (pc : Nat) : ∀ o, t_X0_addWord pc = some o → q_Snd sx RX0 cX0_addWord 2 (some .boolean) pc o := by
  unfold t_X0_addWord
  exact q_cb (q_look_all (ts_X0_addWord_0 sx)) (q_cb (q_look_all (ts_X0_addWord_1 sx)) (q_look_all (ts_X0_addWord_2 sx)))
theorem d_X0_addSpeaker_0 : decode cX0_addSpeaker 0 = .ok (.aload_n 0, 1) := by decide +kernel
theorem d_X0_addSpeaker_1 : decode cX0_addSpeaker 1 = .ok (.getfield 43, 3) := by decide +kernel
theorem d_X0_addSpeaker_4 : decode cX0_addSpeaker 4 = .ok (.iconst 4, 1) := by decide +kernel
theorem d_X0_addSpeaker_5 : decode cX0_addSpeaker 5 = .ok (.if_icmp .ge 19, 3) := by decide +kernel
theorem d_X0_addSpeaker_8 : decode cX0_addSpeaker 8 = .ok (.iload_n 1, 1) := by decide +kernel
theorem d_X0_addSpeaker_9 : decode cX0_addSpeaker 9 = .ok (.iconst 4, 1) := by decide +kernel
theorem d_X0_addSpeaker_10 : decode cX0_addSpeaker 10 = .ok (.if_icmp .ge 14, 3) := by decide +kernel
theorem d_X0_addSpeaker_13 : decode cX0_addSpeaker 13 = .ok (.iload_n 2, 1) := by decide +kernel
theorem d_X0_addSpeaker_14 : decode cX0_addSpeaker 14 = .ok (.iconst 1, 1) := by decide +kernel
theorem d_X0_addSpeaker_15 : decode cX0_addSpeaker 15 = .ok (.if_icmp .lt 9, 3) := by decide +kernel
theorem d_X0_addSpeaker_18 : decode cX0_addSpeaker 18 = .ok (.iload_n 2, 1) := by decide +kernel
theorem d_X0_addSpeaker_19 : decode cX0_addSpeaker 19 = .ok (.bipush 9, 2) := by decide +kernel
theorem d_X0_addSpeaker_21 : decode cX0_addSpeaker 21 = .ok (.if_icmp .le 5, 3) := by decide +kernel
theorem d_X0_addSpeaker_24 : decode cX0_addSpeaker 24 = .ok (.iconst 0, 1) := by decide +kernel
theorem d_X0_addSpeaker_25 : decode cX0_addSpeaker 25 = .ok (.ireturn, 1) := by decide +kernel
theorem d_X0_addSpeaker_26 : decode cX0_addSpeaker 26 = .ok (.aload_n 0, 1) := by decide +kernel
theorem d_X0_addSpeaker_27 : decode cX0_addSpeaker 27 = .ok (.getfield 21, 3) := by decide +kernel
theorem d_X0_addSpeaker_30 : decode cX0_addSpeaker 30 = .ok (.aload_n 0, 1) := by decide +kernel
theorem d_X0_addSpeaker_31 : decode cX0_addSpeaker 31 = .ok (.getfield 43, 3) := by decide +kernel
theorem d_X0_addSpeaker_34 : decode cX0_addSpeaker 34 = .ok (.iload_n 1, 1) := by decide +kernel
theorem d_X0_addSpeaker_35 : decode cX0_addSpeaker 35 = .ok (.invokestatic 53, 3) := by decide +kernel
theorem d_X0_addSpeaker_38 : decode cX0_addSpeaker 38 = .ok (.aload_n 0, 1) := by decide +kernel
theorem d_X0_addSpeaker_39 : decode cX0_addSpeaker 39 = .ok (.getfield 24, 3) := by decide +kernel
theorem d_X0_addSpeaker_42 : decode cX0_addSpeaker 42 = .ok (.aload_n 0, 1) := by decide +kernel
theorem d_X0_addSpeaker_43 : decode cX0_addSpeaker 43 = .ok (.getfield 43, 3) := by decide +kernel
theorem d_X0_addSpeaker_46 : decode cX0_addSpeaker 46 = .ok (.iload_n 2, 1) := by decide +kernel
theorem d_X0_addSpeaker_47 : decode cX0_addSpeaker 47 = .ok (.invokestatic 53, 3) := by decide +kernel
theorem d_X0_addSpeaker_50 : decode cX0_addSpeaker 50 = .ok (.aload_n 0, 1) := by decide +kernel
theorem d_X0_addSpeaker_51 : decode cX0_addSpeaker 51 = .ok (.dup, 1) := by decide +kernel
theorem d_X0_addSpeaker_52 : decode cX0_addSpeaker 52 = .ok (.getfield 43, 3) := by decide +kernel
theorem d_X0_addSpeaker_55 : decode cX0_addSpeaker 55 = .ok (.iconst 1, 1) := by decide +kernel
theorem d_X0_addSpeaker_56 : decode cX0_addSpeaker 56 = .ok (.iadd, 1) := by decide +kernel
theorem d_X0_addSpeaker_57 : decode cX0_addSpeaker 57 = .ok (.putfield 43, 3) := by decide +kernel
theorem d_X0_addSpeaker_60 : decode cX0_addSpeaker 60 = .ok (.iconst 1, 1) := by decide +kernel
theorem d_X0_addSpeaker_61 : decode cX0_addSpeaker 61 = .ok (.ireturn, 1) := by decide +kernel
def t_X0_addSpeaker_0 : List (Nat × QO) := [(0, o_al 0 1), (1, o_gf 0 2 4), (4, o_k 4 5), (5, o_ic (fun x y => decide (y ≤ x)) 24 8), (8, o_il 1 9), (9, o_k 4 10), (10, o_ic (fun x y => decide (y ≤ x)) 24 13), (13, o_il 2 14), (14, o_k 1 15), (15, o_ic (fun x y => decide (x < y)) 24 18), (18, o_il 2 19), (19, o_k 9 21)]
theorem ts_X0_addSpeaker_0 (sx : QX) : ∀ q ∈ t_X0_addSpeaker_0, q_Snd sx RX0 cX0_addSpeaker 3 (some .boolean) q.1 q.2 := List.forall_mem_cons.mpr ⟨s_aload_n d_X0_addSpeaker_0 rfl, List.forall_mem_cons.mpr ⟨s_gf d_X0_addSpeaker_1 rfl (by decide) n_X0 in_X0 rfl k_1_58, List.forall_mem_cons.mpr ⟨s_iconst d_X0_addSpeaker_4 rfl, List.forall_mem_cons.mpr ⟨s_ic_ge d_X0_addSpeaker_5 (by decide), List.forall_mem_cons.mpr ⟨s_iload_n d_X0_addSpeaker_8 rfl, List.forall_mem_cons.mpr ⟨s_iconst d_X0_addSpeaker_9 rfl, List.forall_mem_cons.mpr ⟨s_ic_ge d_X0_addSpeaker_10 (by decide), List.forall_mem_cons.mpr ⟨s_iload_n d_X0_addSpeaker_13 rfl, List.forall_mem_cons.mpr ⟨s_iconst d_X0_addSpeaker_14 rfl, List.forall_mem_cons.mpr ⟨s_ic_lt d_X0_addSpeaker_15 (by decide), List.forall_mem_cons.mpr ⟨s_iload_n d_X0_addSpeaker_18 rfl, List.forall_mem_cons.mpr ⟨s_bipush d_X0_addSpeaker_19 rfl, fun _ h => absurd h List.not_mem_nil⟩⟩⟩⟩⟩⟩⟩⟩⟩⟩⟩⟩
def t_X0_addSpeaker_1 : List (Nat × QO) := [(21, o_ic (fun x y => decide (x ≤ y)) 26 24), (24, o_k 0 25), (25, o_ir true), (26, o_al 0 27), (27, o_gf 0 7 30), (30, o_al 0 31), (31, o_gf 0 2 34), (34, o_il 1 35), (35, o_cS 0 98 3 3 38), (38, o_al 0 39), (39, o_gf 0 8 42), (42, o_al 0 43)]
theorem ts_X0_addSpeaker_1 (sx : QX) : ∀ q ∈ t_X0_addSpeaker_1, q_Snd sx RX0 cX0_addSpeaker 3 (some .boolean) q.1 q.2 := List.forall_mem_cons.mpr ⟨s_ic_le d_X0_addSpeaker_21 (by decide), List.forall_mem_cons.mpr ⟨s_iconst d_X0_addSpeaker_24 rfl, List.forall_mem_cons.mpr ⟨s_zr d_X0_addSpeaker_25 rfl, List.forall_mem_cons.mpr ⟨s_aload_n d_X0_addSpeaker_26 rfl, List.forall_mem_cons.mpr ⟨s_gf d_X0_addSpeaker_27 rfl (by decide) n_X0 in_X0 rfl k_1_71, List.forall_mem_cons.mpr ⟨s_aload_n d_X0_addSpeaker_30 rfl, List.forall_mem_cons.mpr ⟨s_gf d_X0_addSpeaker_31 rfl (by decide) n_X0 in_X0 rfl k_1_58, List.forall_mem_cons.mpr ⟨s_iload_n d_X0_addSpeaker_34 rfl, List.forall_mem_cons.mpr ⟨s_cN (host := "StoneApologies") rfl d_X0_addSpeaker_35 (List.mem_of_getElem? (i := 5) rfl) k_2_23 k_1_1 k_2_24 ⟨by decide, by decide⟩ (by decide +kernel) (by decide), List.forall_mem_cons.mpr ⟨s_aload_n d_X0_addSpeaker_38 rfl, List.forall_mem_cons.mpr ⟨s_gf d_X0_addSpeaker_39 rfl (by decide) n_X0 in_X0 rfl k_1_73, List.forall_mem_cons.mpr ⟨s_aload_n d_X0_addSpeaker_42 rfl, fun _ h => absurd h List.not_mem_nil⟩⟩⟩⟩⟩⟩⟩⟩⟩⟩⟩⟩
def t_X0_addSpeaker_2 : List (Nat × QO) := [(43, o_gf 0 2 46), (46, o_il 2 47), (47, o_cS 0 98 3 3 50), (50, o_al 0 51), (51, o_dup 52), (52, o_gf 0 2 55), (55, o_k 1 56), (56, o_b (fun x y => x + y) 57), (57, o_pf 0 2 60), (60, o_k 1 61), (61, o_ir true)]
theorem ts_X0_addSpeaker_2 (sx : QX) : ∀ q ∈ t_X0_addSpeaker_2, q_Snd sx RX0 cX0_addSpeaker 3 (some .boolean) q.1 q.2 := List.forall_mem_cons.mpr ⟨s_gf d_X0_addSpeaker_43 rfl (by decide) n_X0 in_X0 rfl k_1_58, List.forall_mem_cons.mpr ⟨s_iload_n d_X0_addSpeaker_46 rfl, List.forall_mem_cons.mpr ⟨s_cN (host := "StoneApologies") rfl d_X0_addSpeaker_47 (List.mem_of_getElem? (i := 5) rfl) k_2_23 k_1_1 k_2_24 ⟨by decide, by decide⟩ (by decide +kernel) (by decide), List.forall_mem_cons.mpr ⟨s_aload_n d_X0_addSpeaker_50 rfl, List.forall_mem_cons.mpr ⟨s_dup d_X0_addSpeaker_51, List.forall_mem_cons.mpr ⟨s_gf d_X0_addSpeaker_52 rfl (by decide) n_X0 in_X0 rfl k_1_58, List.forall_mem_cons.mpr ⟨s_iconst d_X0_addSpeaker_55 rfl, List.forall_mem_cons.mpr ⟨s_iadd d_X0_addSpeaker_56, List.forall_mem_cons.mpr ⟨s_pf tyX0 d_X0_addSpeaker_57 rfl (by decide) n_X0 in_X0 rfl k_1_58 tyX0_ok nmX0 rfl rfl, List.forall_mem_cons.mpr ⟨s_iconst d_X0_addSpeaker_60 rfl, List.forall_mem_cons.mpr ⟨s_zr d_X0_addSpeaker_61 rfl, fun _ h => absurd h List.not_mem_nil⟩⟩⟩⟩⟩⟩⟩⟩⟩⟩⟩
def t_X0_addSpeaker (pc : Nat) : Option QO := cond (Nat.ble pc 19) (q_look (t_X0_addSpeaker_0) pc) (cond (Nat.ble pc 42) (q_look (t_X0_addSpeaker_1) pc) (q_look (t_X0_addSpeaker_2) pc))
theorem ts_X0_addSpeaker (sx : QX) (pc : Nat) : ∀ o, t_X0_addSpeaker pc = some o → q_Snd sx RX0 cX0_addSpeaker 3 (some .boolean) pc o := by
  unfold t_X0_addSpeaker
  exact q_cb (q_look_all (ts_X0_addSpeaker_0 sx)) (q_cb (q_look_all (ts_X0_addSpeaker_1 sx)) (q_look_all (ts_X0_addSpeaker_2 sx)))
theorem d_X0_setFrost_0 : decode cX0_setFrost 0 = .ok (.iload_n 1, 1) := by decide +kernel
theorem d_X0_setFrost_1 : decode cX0_setFrost 1 = .ok (.bipush 9, 2) := by decide +kernel
theorem d_X0_setFrost_3 : decode cX0_setFrost 3 = .ok (.if_icmp .le 5, 3) := by decide +kernel
theorem d_X0_setFrost_6 : decode cX0_setFrost 6 = .ok (.iconst 0, 1) := by decide +kernel
theorem d_X0_setFrost_7 : decode cX0_setFrost 7 = .ok (.ireturn, 1) := by decide +kernel
theorem d_X0_setFrost_8 : decode cX0_setFrost 8 = .ok (.aload_n 0, 1) := by decide +kernel
theorem d_X0_setFrost_9 : decode cX0_setFrost 9 = .ok (.iload_n 1, 1) := by decide +kernel
theorem d_X0_setFrost_10 : decode cX0_setFrost 10 = .ok (.putfield 46, 3) := by decide +kernel
theorem d_X0_setFrost_13 : decode cX0_setFrost 13 = .ok (.iconst 1, 1) := by decide +kernel
theorem d_X0_setFrost_14 : decode cX0_setFrost 14 = .ok (.ireturn, 1) := by decide +kernel
def t_X0_setFrost_0 : List (Nat × QO) := [(0, o_il 1 1), (1, o_k 9 3), (3, o_ic (fun x y => decide (x ≤ y)) 8 6), (6, o_k 0 7), (7, o_ir true), (8, o_al 0 9), (9, o_il 1 10), (10, o_pf 0 3 13), (13, o_k 1 14), (14, o_ir true)]
theorem ts_X0_setFrost_0 (sx : QX) : ∀ q ∈ t_X0_setFrost_0, q_Snd sx RX0 cX0_setFrost 2 (some .boolean) q.1 q.2 := List.forall_mem_cons.mpr ⟨s_iload_n d_X0_setFrost_0 rfl, List.forall_mem_cons.mpr ⟨s_bipush d_X0_setFrost_1 rfl, List.forall_mem_cons.mpr ⟨s_ic_le d_X0_setFrost_3 (by decide), List.forall_mem_cons.mpr ⟨s_iconst d_X0_setFrost_6 rfl, List.forall_mem_cons.mpr ⟨s_zr d_X0_setFrost_7 rfl, List.forall_mem_cons.mpr ⟨s_aload_n d_X0_setFrost_8 rfl, List.forall_mem_cons.mpr ⟨s_iload_n d_X0_setFrost_9 rfl, List.forall_mem_cons.mpr ⟨s_pf tyX0 d_X0_setFrost_10 rfl (by decide) n_X0 in_X0 rfl k_1_62 tyX0_ok nmX0 rfl rfl, List.forall_mem_cons.mpr ⟨s_iconst d_X0_setFrost_13 rfl, List.forall_mem_cons.mpr ⟨s_zr d_X0_setFrost_14 rfl, fun _ h => absurd h List.not_mem_nil⟩⟩⟩⟩⟩⟩⟩⟩⟩⟩
def t_X0_setFrost (pc : Nat) : Option QO := q_look (t_X0_setFrost_0) pc
theorem ts_X0_setFrost (sx : QX) (pc : Nat) : ∀ o, t_X0_setFrost pc = some o → q_Snd sx RX0 cX0_setFrost 2 (some .boolean) pc o := by
  unfold t_X0_setFrost
  exact q_look_all (ts_X0_setFrost_0 sx)
theorem d_X0_addVow_0 : decode cX0_addVow 0 = .ok (.iload_n 1, 1) := by decide +kernel
theorem d_X0_addVow_1 : decode cX0_addVow 1 = .ok (.aload_n 0, 1) := by decide +kernel
theorem d_X0_addVow_2 : decode cX0_addVow 2 = .ok (.getfield 43, 3) := by decide +kernel
theorem d_X0_addVow_5 : decode cX0_addVow 5 = .ok (.if_icmp .ge 18, 3) := by decide +kernel
theorem d_X0_addVow_8 : decode cX0_addVow 8 = .ok (.iload_n 2, 1) := by decide +kernel
theorem d_X0_addVow_9 : decode cX0_addVow 9 = .ok (.aload_n 0, 1) := by decide +kernel
theorem d_X0_addVow_10 : decode cX0_addVow 10 = .ok (.getfield 36, 3) := by decide +kernel
theorem d_X0_addVow_13 : decode cX0_addVow 13 = .ok (.if_icmp .ge 10, 3) := by decide +kernel
theorem d_X0_addVow_16 : decode cX0_addVow 16 = .ok (.iload_n 3, 1) := by decide +kernel
theorem d_X0_addVow_17 : decode cX0_addVow 17 = .ok (.invokestatic 57, 3) := by decide +kernel
theorem d_X0_addVow_20 : decode cX0_addVow 20 = .ok (.ifCond .ne 5, 3) := by decide +kernel
theorem d_X0_addVow_23 : decode cX0_addVow 23 = .ok (.iconst 0, 1) := by decide +kernel
theorem d_X0_addVow_24 : decode cX0_addVow 24 = .ok (.ireturn, 1) := by decide +kernel
theorem d_X0_addVow_25 : decode cX0_addVow 25 = .ok (.aload_n 0, 1) := by decide +kernel
theorem d_X0_addVow_26 : decode cX0_addVow 26 = .ok (.getfield 27, 3) := by decide +kernel
theorem d_X0_addVow_29 : decode cX0_addVow 29 = .ok (.iload_n 1, 1) := by decide +kernel
theorem d_X0_addVow_30 : decode cX0_addVow 30 = .ok (.iload_n 2, 1) := by decide +kernel
theorem d_X0_addVow_31 : decode cX0_addVow 31 = .ok (.invokestatic 61, 3) := by decide +kernel
theorem d_X0_addVow_34 : decode cX0_addVow 34 = .ok (.iload_n 3, 1) := by decide +kernel
theorem d_X0_addVow_35 : decode cX0_addVow 35 = .ok (.invokestatic 53, 3) := by decide +kernel
theorem d_X0_addVow_38 : decode cX0_addVow 38 = .ok (.iconst 1, 1) := by decide +kernel
theorem d_X0_addVow_39 : decode cX0_addVow 39 = .ok (.ireturn, 1) := by decide +kernel
def t_X0_addVow_0 : List (Nat × QO) := [(0, o_il 1 1), (1, o_al 0 2), (2, o_gf 0 2 5), (5, o_ic (fun x y => decide (y ≤ x)) 23 8), (8, o_il 2 9), (9, o_al 0 10), (10, o_gf 0 0 13), (13, o_ic (fun x y => decide (y ≤ x)) 23 16), (16, o_il 3 17), (17, o_cS 1 90 1 1 20), (20, o_if (fun x => decide (x ≠ 0)) 25 23), (23, o_k 0 24)]
theorem ts_X0_addVow_0 (sx : QX) : ∀ q ∈ t_X0_addVow_0, q_Snd sx RX0 cX0_addVow 4 (some .boolean) q.1 q.2 := List.forall_mem_cons.mpr ⟨s_iload_n d_X0_addVow_0 rfl, List.forall_mem_cons.mpr ⟨s_aload_n d_X0_addVow_1 rfl, List.forall_mem_cons.mpr ⟨s_gf d_X0_addVow_2 rfl (by decide) n_X0 in_X0 rfl k_1_58, List.forall_mem_cons.mpr ⟨s_ic_ge d_X0_addVow_5 (by decide), List.forall_mem_cons.mpr ⟨s_iload_n d_X0_addVow_8 rfl, List.forall_mem_cons.mpr ⟨s_aload_n d_X0_addVow_9 rfl, List.forall_mem_cons.mpr ⟨s_gf d_X0_addVow_10 rfl (by decide) n_X0 in_X0 rfl k_1_50, List.forall_mem_cons.mpr ⟨s_ic_ge d_X0_addVow_13 (by decide), List.forall_mem_cons.mpr ⟨s_iload_n d_X0_addVow_16 rfl, List.forall_mem_cons.mpr ⟨s_cN (host := "StoneApologies") rfl d_X0_addVow_17 (List.mem_of_getElem? (i := 6) rfl) k_2_81 k_1_1 k_2_82 ⟨by decide, by decide⟩ (by decide +kernel) (by decide), List.forall_mem_cons.mpr ⟨s_if_ne d_X0_addVow_20 (by decide), List.forall_mem_cons.mpr ⟨s_iconst d_X0_addVow_23 rfl, fun _ h => absurd h List.not_mem_nil⟩⟩⟩⟩⟩⟩⟩⟩⟩⟩⟩⟩
def t_X0_addVow_1 : List (Nat × QO) := [(24, o_ir true), (25, o_al 0 26), (26, o_gf 0 9 29), (29, o_il 1 30), (30, o_il 2 31), (31, o_cS 1 11 2 2 34), (34, o_il 3 35), (35, o_cS 0 98 3 3 38), (38, o_k 1 39), (39, o_ir true)]
theorem ts_X0_addVow_1 (sx : QX) : ∀ q ∈ t_X0_addVow_1, q_Snd sx RX0 cX0_addVow 4 (some .boolean) q.1 q.2 := List.forall_mem_cons.mpr ⟨s_zr d_X0_addVow_24 rfl, List.forall_mem_cons.mpr ⟨s_aload_n d_X0_addVow_25 rfl, List.forall_mem_cons.mpr ⟨s_gf d_X0_addVow_26 rfl (by decide) n_X0 in_X0 rfl k_1_76, List.forall_mem_cons.mpr ⟨s_iload_n d_X0_addVow_29 rfl, List.forall_mem_cons.mpr ⟨s_iload_n d_X0_addVow_30 rfl, List.forall_mem_cons.mpr ⟨s_cS rfl d_X0_addVow_31 k_2_83 k_2_84 k_1_3 k_2_85 ⟨by decide, by decide⟩ (by decide +kernel) (by decide), List.forall_mem_cons.mpr ⟨s_iload_n d_X0_addVow_34 rfl, List.forall_mem_cons.mpr ⟨s_cN (host := "StoneApologies") rfl d_X0_addVow_35 (List.mem_of_getElem? (i := 5) rfl) k_2_23 k_1_1 k_2_24 ⟨by decide, by decide⟩ (by decide +kernel) (by decide), List.forall_mem_cons.mpr ⟨s_iconst d_X0_addVow_38 rfl, List.forall_mem_cons.mpr ⟨s_zr d_X0_addVow_39 rfl, fun _ h => absurd h List.not_mem_nil⟩⟩⟩⟩⟩⟩⟩⟩⟩⟩
def t_X0_addVow (pc : Nat) : Option QO := cond (Nat.ble pc 23) (q_look (t_X0_addVow_0) pc) (q_look (t_X0_addVow_1) pc)
theorem ts_X0_addVow (sx : QX) (pc : Nat) : ∀ o, t_X0_addVow pc = some o → q_Snd sx RX0 cX0_addVow 4 (some .boolean) pc o := by
  unfold t_X0_addVow
  exact q_cb (q_look_all (ts_X0_addVow_0 sx)) (q_look_all (ts_X0_addVow_1 sx))
theorem d_X0_reckon_0 : decode cX0_reckon 0 = .ok (.iconst 0, 1) := by decide +kernel
theorem d_X0_reckon_1 : decode cX0_reckon 1 = .ok (.istore_n 1, 1) := by decide +kernel
theorem d_X0_reckon_2 : decode cX0_reckon 2 = .ok (.iload_n 1, 1) := by decide +kernel
theorem d_X0_reckon_3 : decode cX0_reckon 3 = .ok (.aload_n 0, 1) := by decide +kernel
theorem d_X0_reckon_4 : decode cX0_reckon 4 = .ok (.getfield 36, 3) := by decide +kernel
theorem d_X0_reckon_7 : decode cX0_reckon 7 = .ok (.if_icmp .ge 93, 3) := by decide +kernel
theorem d_X0_reckon_10 : decode cX0_reckon 10 = .ok (.iconst 0, 1) := by decide +kernel
theorem d_X0_reckon_11 : decode cX0_reckon 11 = .ok (.istore_n 2, 1) := by decide +kernel
theorem d_X0_reckon_12 : decode cX0_reckon 12 = .ok (.iload_n 2, 1) := by decide +kernel
theorem d_X0_reckon_13 : decode cX0_reckon 13 = .ok (.aload_n 0, 1) := by decide +kernel
theorem d_X0_reckon_14 : decode cX0_reckon 14 = .ok (.getfield 40, 3) := by decide +kernel
theorem d_X0_reckon_17 : decode cX0_reckon 17 = .ok (.if_icmp .ge 77, 3) := by decide +kernel
theorem d_X0_reckon_20 : decode cX0_reckon 20 = .ok (.aload_n 0, 1) := by decide +kernel
theorem d_X0_reckon_21 : decode cX0_reckon 21 = .ok (.aload_n 0, 1) := by decide +kernel
theorem d_X0_reckon_22 : decode cX0_reckon 22 = .ok (.getfield 9, 3) := by decide +kernel
theorem d_X0_reckon_25 : decode cX0_reckon 25 = .ok (.iload_n 1, 1) := by decide +kernel
theorem d_X0_reckon_26 : decode cX0_reckon 26 = .ok (.invokestatic 65, 3) := by decide +kernel
theorem d_X0_reckon_29 : decode cX0_reckon 29 = .ok (.iload_n 2, 1) := by decide +kernel
theorem d_X0_reckon_30 : decode cX0_reckon 30 = .ok (.invokevirtual 69, 3) := by decide +kernel
theorem d_X0_reckon_33 : decode cX0_reckon 33 = .ok (.istore_n 3, 1) := by decide +kernel
theorem d_X0_reckon_34 : decode cX0_reckon 34 = .ok (.aload_n 0, 1) := by decide +kernel
theorem d_X0_reckon_35 : decode cX0_reckon 35 = .ok (.getfield 30, 3) := by decide +kernel
theorem d_X0_reckon_38 : decode cX0_reckon 38 = .ok (.iload_n 1, 1) := by decide +kernel
theorem d_X0_reckon_39 : decode cX0_reckon 39 = .ok (.iload_n 2, 1) := by decide +kernel
theorem d_X0_reckon_40 : decode cX0_reckon 40 = .ok (.invokestatic 72, 3) := by decide +kernel
theorem d_X0_reckon_43 : decode cX0_reckon 43 = .ok (.iload_n 3, 1) := by decide +kernel
theorem d_X0_reckon_44 : decode cX0_reckon 44 = .ok (.invokestatic 53, 3) := by decide +kernel
theorem d_X0_reckon_47 : decode cX0_reckon 47 = .ok (.iconst 0, 1) := by decide +kernel
theorem d_X0_reckon_48 : decode cX0_reckon 48 = .ok (.istore 4, 2) := by decide +kernel
theorem d_X0_reckon_50 : decode cX0_reckon 50 = .ok (.iload 4, 2) := by decide +kernel
theorem d_X0_reckon_52 : decode cX0_reckon 52 = .ok (.aload_n 0, 1) := by decide +kernel
theorem d_X0_reckon_53 : decode cX0_reckon 53 = .ok (.getfield 43, 3) := by decide +kernel
theorem d_X0_reckon_56 : decode cX0_reckon 56 = .ok (.if_icmp .ge 32, 3) := by decide +kernel
theorem d_X0_reckon_59 : decode cX0_reckon 59 = .ok (.aload_n 0, 1) := by decide +kernel
theorem d_X0_reckon_60 : decode cX0_reckon 60 = .ok (.getfield 33, 3) := by decide +kernel
theorem d_X0_reckon_63 : decode cX0_reckon 63 = .ok (.iload 4, 2) := by decide +kernel
theorem d_X0_reckon_65 : decode cX0_reckon 65 = .ok (.iload_n 1, 1) := by decide +kernel
theorem d_X0_reckon_66 : decode cX0_reckon 66 = .ok (.iload_n 2, 1) := by decide +kernel
theorem d_X0_reckon_67 : decode cX0_reckon 67 = .ok (.invokestatic 75, 3) := by decide +kernel
theorem d_X0_reckon_70 : decode cX0_reckon 70 = .ok (.aload_n 0, 1) := by decide +kernel
theorem d_X0_reckon_71 : decode cX0_reckon 71 = .ok (.iload 4, 2) := by decide +kernel
theorem d_X0_reckon_73 : decode cX0_reckon 73 = .ok (.iload_n 1, 1) := by decide +kernel
theorem d_X0_reckon_74 : decode cX0_reckon 74 = .ok (.iload_n 2, 1) := by decide +kernel
theorem d_X0_reckon_75 : decode cX0_reckon 75 = .ok (.iload_n 3, 1) := by decide +kernel
theorem d_X0_reckon_76 : decode cX0_reckon 76 = .ok (.invokevirtual 79, 3) := by decide +kernel
theorem d_X0_reckon_79 : decode cX0_reckon 79 = .ok (.invokestatic 53, 3) := by decide +kernel
theorem d_X0_reckon_82 : decode cX0_reckon 82 = .ok (.iinc 4 1, 3) := by decide +kernel
theorem d_X0_reckon_85 : decode cX0_reckon 85 = .ok (.goto (-35), 3) := by decide +kernel
theorem d_X0_reckon_88 : decode cX0_reckon 88 = .ok (.iinc 2 1, 3) := by decide +kernel
theorem d_X0_reckon_91 : decode cX0_reckon 91 = .ok (.goto (-79), 3) := by decide +kernel
theorem d_X0_reckon_94 : decode cX0_reckon 94 = .ok (.iinc 1 1, 3) := by decide +kernel
theorem d_X0_reckon_97 : decode cX0_reckon 97 = .ok (.goto (-95), 3) := by decide +kernel
theorem d_X0_reckon_100 : decode cX0_reckon 100 = .ok (.return_, 1) := by decide +kernel
def t_X0_reckon_0 : List (Nat × QO) := [(0, o_k 0 1), (1, o_is 1 2), (2, o_il 1 3), (3, o_al 0 4), (4, o_gf 0 0 7), (7, o_ic (fun x y => decide (y ≤ x)) 100 10), (10, o_k 0 11), (11, o_is 2 12), (12, o_il 2 13), (13, o_al 0 14), (14, o_gf 0 1 17), (17, o_ic (fun x y => decide (y ≤ x)) 94 20)]
theorem ts_X0_reckon_0 (sx : QX) : ∀ q ∈ t_X0_reckon_0, q_Snd sx RX0 cX0_reckon 5 none q.1 q.2 := List.forall_mem_cons.mpr ⟨s_iconst d_X0_reckon_0 rfl, List.forall_mem_cons.mpr ⟨s_istore_n d_X0_reckon_1 rfl (by decide), List.forall_mem_cons.mpr ⟨s_iload_n d_X0_reckon_2 rfl, List.forall_mem_cons.mpr ⟨s_aload_n d_X0_reckon_3 rfl, List.forall_mem_cons.mpr ⟨s_gf d_X0_reckon_4 rfl (by decide) n_X0 in_X0 rfl k_1_50, List.forall_mem_cons.mpr ⟨s_ic_ge d_X0_reckon_7 (by decide), List.forall_mem_cons.mpr ⟨s_iconst d_X0_reckon_10 rfl, List.forall_mem_cons.mpr ⟨s_istore_n d_X0_reckon_11 rfl (by decide), List.forall_mem_cons.mpr ⟨s_iload_n d_X0_reckon_12 rfl, List.forall_mem_cons.mpr ⟨s_aload_n d_X0_reckon_13 rfl, List.forall_mem_cons.mpr ⟨s_gf d_X0_reckon_14 rfl (by decide) n_X0 in_X0 rfl k_1_54, List.forall_mem_cons.mpr ⟨s_ic_ge d_X0_reckon_17 (by decide), fun _ h => absurd h List.not_mem_nil⟩⟩⟩⟩⟩⟩⟩⟩⟩⟩⟩⟩
def t_X0_reckon_1 : List (Nat × QO) := [(20, o_al 0 21), (21, o_al 0 22), (22, o_gf 0 4 25), (25, o_il 1 26), (26, o_cS 1 97 2 2 29), (29, o_il 2 30), (30, o_cV 1 0 8 4 3 33), (33, o_is 3 34), (34, o_al 0 35), (35, o_gf 0 10 38), (38, o_il 1 39), (39, o_il 2 40)]
theorem ts_X0_reckon_1 (sx : QX) : ∀ q ∈ t_X0_reckon_1, q_Snd sx RX0 cX0_reckon 5 none q.1 q.2 := List.forall_mem_cons.mpr ⟨s_aload_n d_X0_reckon_20 rfl, List.forall_mem_cons.mpr ⟨s_aload_n d_X0_reckon_21 rfl, List.forall_mem_cons.mpr ⟨s_gf d_X0_reckon_22 rfl (by decide) n_X0 in_X0 rfl k_1_63, List.forall_mem_cons.mpr ⟨s_iload_n d_X0_reckon_25 rfl, List.forall_mem_cons.mpr ⟨s_cN (host := "StoneApologies") rfl d_X0_reckon_26 (List.mem_of_getElem? (i := 7) rfl) k_2_57 k_1_1 k_2_58 ⟨by decide, by decide⟩ (by decide +kernel) (by decide), List.forall_mem_cons.mpr ⟨s_iload_n d_X0_reckon_29 rfl, List.forall_mem_cons.mpr ⟨s_cV (T := TX0) (N := 12) rfl d_X0_reckon_30 rfl k_2_91 k_2_93 k_0_5 k_1_3 k_2_94 ⟨by decide, by decide⟩ (by decide +kernel) (by decide), List.forall_mem_cons.mpr ⟨s_istore_n d_X0_reckon_33 rfl (by decide), List.forall_mem_cons.mpr ⟨s_aload_n d_X0_reckon_34 rfl, List.forall_mem_cons.mpr ⟨s_gf d_X0_reckon_35 rfl (by decide) n_X0 in_X0 rfl k_1_78, List.forall_mem_cons.mpr ⟨s_iload_n d_X0_reckon_38 rfl, List.forall_mem_cons.mpr ⟨s_iload_n d_X0_reckon_39 rfl, fun _ h => absurd h List.not_mem_nil⟩⟩⟩⟩⟩⟩⟩⟩⟩⟩⟩⟩
def t_X0_reckon_2 : List (Nat × QO) := [(40, o_cS 1 12 2 2 43), (43, o_il 3 44), (44, o_cS 0 98 3 3 47), (47, o_k 0 48), (48, o_is 4 50), (50, o_il 4 52), (52, o_al 0 53), (53, o_gf 0 2 56), (56, o_ic (fun x y => decide (y ≤ x)) 88 59), (59, o_al 0 60), (60, o_gf 0 11 63), (63, o_il 4 65)]
theorem ts_X0_reckon_2 (sx : QX) : ∀ q ∈ t_X0_reckon_2, q_Snd sx RX0 cX0_reckon 5 none q.1 q.2 := List.forall_mem_cons.mpr ⟨s_cS rfl d_X0_reckon_40 k_2_95 k_2_96 k_1_3 k_2_97 ⟨by decide, by decide⟩ (by decide +kernel) (by decide), List.forall_mem_cons.mpr ⟨s_iload_n d_X0_reckon_43 rfl, List.forall_mem_cons.mpr ⟨s_cN (host := "StoneApologies") rfl d_X0_reckon_44 (List.mem_of_getElem? (i := 5) rfl) k_2_23 k_1_1 k_2_24 ⟨by decide, by decide⟩ (by decide +kernel) (by decide), List.forall_mem_cons.mpr ⟨s_iconst d_X0_reckon_47 rfl, List.forall_mem_cons.mpr ⟨s_istore d_X0_reckon_48 (by decide), List.forall_mem_cons.mpr ⟨s_iload d_X0_reckon_50, List.forall_mem_cons.mpr ⟨s_aload_n d_X0_reckon_52 rfl, List.forall_mem_cons.mpr ⟨s_gf d_X0_reckon_53 rfl (by decide) n_X0 in_X0 rfl k_1_58, List.forall_mem_cons.mpr ⟨s_ic_ge d_X0_reckon_56 (by decide), List.forall_mem_cons.mpr ⟨s_aload_n d_X0_reckon_59 rfl, List.forall_mem_cons.mpr ⟨s_gf d_X0_reckon_60 rfl (by decide) n_X0 in_X0 rfl k_1_80, List.forall_mem_cons.mpr ⟨s_iload d_X0_reckon_63, fun _ h => absurd h List.not_mem_nil⟩⟩⟩⟩⟩⟩⟩⟩⟩⟩⟩⟩
def t_X0_reckon_3 : List (Nat × QO) := [(65, o_il 1 66), (66, o_il 2 67), (67, o_cS 1 13 3 3 70), (70, o_al 0 71), (71, o_il 4 73), (73, o_il 1 74), (74, o_il 2 75), (75, o_il 3 76), (76, o_cV 1 0 9 5 5 79), (79, o_cS 0 98 3 3 82), (82, o_inc 4 1 85), (85, o_goto 50)]
theorem ts_X0_reckon_3 (sx : QX) : ∀ q ∈ t_X0_reckon_3, q_Snd sx RX0 cX0_reckon 5 none q.1 q.2 := List.forall_mem_cons.mpr ⟨s_iload_n d_X0_reckon_65 rfl, List.forall_mem_cons.mpr ⟨s_iload_n d_X0_reckon_66 rfl, List.forall_mem_cons.mpr ⟨s_cS rfl d_X0_reckon_67 k_2_98 k_2_99 k_1_3 k_2_100 ⟨by decide, by decide⟩ (by decide +kernel) (by decide), List.forall_mem_cons.mpr ⟨s_aload_n d_X0_reckon_70 rfl, List.forall_mem_cons.mpr ⟨s_iload d_X0_reckon_71, List.forall_mem_cons.mpr ⟨s_iload_n d_X0_reckon_73 rfl, List.forall_mem_cons.mpr ⟨s_iload_n d_X0_reckon_74 rfl, List.forall_mem_cons.mpr ⟨s_iload_n d_X0_reckon_75 rfl, List.forall_mem_cons.mpr ⟨s_cV (T := TX0) (N := 12) rfl d_X0_reckon_76 rfl k_2_101 k_2_103 k_0_6 k_1_3 k_2_104 ⟨by decide, by decide⟩ (by decide +kernel) (by decide), List.forall_mem_cons.mpr ⟨s_cN (host := "StoneApologies") rfl d_X0_reckon_79 (List.mem_of_getElem? (i := 5) rfl) k_2_23 k_1_1 k_2_24 ⟨by decide, by decide⟩ (by decide +kernel) (by decide), List.forall_mem_cons.mpr ⟨s_iinc d_X0_reckon_82 rfl (by decide), List.forall_mem_cons.mpr ⟨s_goto d_X0_reckon_85 (by decide), fun _ h => absurd h List.not_mem_nil⟩⟩⟩⟩⟩⟩⟩⟩⟩⟩⟩⟩
def t_X0_reckon_4 : List (Nat × QO) := [(88, o_inc 2 1 91), (91, o_goto 12), (94, o_inc 1 1 97), (97, o_goto 2), (100, o_vr)]
theorem ts_X0_reckon_4 (sx : QX) : ∀ q ∈ t_X0_reckon_4, q_Snd sx RX0 cX0_reckon 5 none q.1 q.2 := List.forall_mem_cons.mpr ⟨s_iinc d_X0_reckon_88 rfl (by decide), List.forall_mem_cons.mpr ⟨s_goto d_X0_reckon_91 (by decide), List.forall_mem_cons.mpr ⟨s_iinc d_X0_reckon_94 rfl (by decide), List.forall_mem_cons.mpr ⟨s_goto d_X0_reckon_97 (by decide), List.forall_mem_cons.mpr ⟨s_vr d_X0_reckon_100 rfl, fun _ h => absurd h List.not_mem_nil⟩⟩⟩⟩⟩
def t_X0_reckon (pc : Nat) : Option QO := cond (Nat.ble pc 39) (cond (Nat.ble pc 17) (q_look (t_X0_reckon_0) pc) (q_look (t_X0_reckon_1) pc)) (cond (Nat.ble pc 63) (q_look (t_X0_reckon_2) pc) (cond (Nat.ble pc 85) (q_look (t_X0_reckon_3) pc) (q_look (t_X0_reckon_4) pc)))
theorem ts_X0_reckon (sx : QX) (pc : Nat) : ∀ o, t_X0_reckon pc = some o → q_Snd sx RX0 cX0_reckon 5 none pc o := by
  unfold t_X0_reckon
  exact q_cb (q_cb (q_look_all (ts_X0_reckon_0 sx)) (q_look_all (ts_X0_reckon_1 sx))) (q_cb (q_look_all (ts_X0_reckon_2 sx)) (q_cb (q_look_all (ts_X0_reckon_3 sx)) (q_look_all (ts_X0_reckon_4 sx))))
theorem d_X0_plainWorth_0 : decode cX0_plainWorth 0 = .ok (.aload_n 0, 1) := by decide +kernel
theorem d_X0_plainWorth_1 : decode cX0_plainWorth 1 = .ok (.getfield 18, 3) := by decide +kernel
theorem d_X0_plainWorth_4 : decode cX0_plainWorth 4 = .ok (.iload_n 2, 1) := by decide +kernel
theorem d_X0_plainWorth_5 : decode cX0_plainWorth 5 = .ok (.invokestatic 65, 3) := by decide +kernel
theorem d_X0_plainWorth_8 : decode cX0_plainWorth 8 = .ok (.istore_n 3, 1) := by decide +kernel
theorem d_X0_plainWorth_9 : decode cX0_plainWorth 9 = .ok (.iload_n 1, 1) := by decide +kernel
theorem d_X0_plainWorth_10 : decode cX0_plainWorth 10 = .ok (.tableswitch 64 1 3 #[26, 40, 53], 26) := by decide +kernel
theorem d_X0_plainWorth_36 : decode cX0_plainWorth 36 = .ok (.iload_n 2, 1) := by decide +kernel
theorem d_X0_plainWorth_37 : decode cX0_plainWorth 37 = .ok (.ifCond .ne 9, 3) := by decide +kernel
theorem d_X0_plainWorth_40 : decode cX0_plainWorth 40 = .ok (.iconst 2, 1) := by decide +kernel
theorem d_X0_plainWorth_41 : decode cX0_plainWorth 41 = .ok (.iload_n 3, 1) := by decide +kernel
theorem d_X0_plainWorth_42 : decode cX0_plainWorth 42 = .ok (.imul, 1) := by decide +kernel
theorem d_X0_plainWorth_43 : decode cX0_plainWorth 43 = .ok (.goto 6, 3) := by decide +kernel
theorem d_X0_plainWorth_46 : decode cX0_plainWorth 46 = .ok (.iload_n 3, 1) := by decide +kernel
theorem d_X0_plainWorth_47 : decode cX0_plainWorth 47 = .ok (.iconst 2, 1) := by decide +kernel
theorem d_X0_plainWorth_48 : decode cX0_plainWorth 48 = .ok (.idiv, 1) := by decide +kernel
theorem d_X0_plainWorth_49 : decode cX0_plainWorth 49 = .ok (.ireturn, 1) := by decide +kernel
theorem d_X0_plainWorth_50 : decode cX0_plainWorth 50 = .ok (.iload_n 2, 1) := by decide +kernel
theorem d_X0_plainWorth_51 : decode cX0_plainWorth 51 = .ok (.iconst 1, 1) := by decide +kernel
theorem d_X0_plainWorth_52 : decode cX0_plainWorth 52 = .ok (.if_icmp .ne 9, 3) := by decide +kernel
theorem d_X0_plainWorth_55 : decode cX0_plainWorth 55 = .ok (.iconst 3, 1) := by decide +kernel
theorem d_X0_plainWorth_56 : decode cX0_plainWorth 56 = .ok (.iload_n 3, 1) := by decide +kernel
theorem d_X0_plainWorth_57 : decode cX0_plainWorth 57 = .ok (.imul, 1) := by decide +kernel
theorem d_X0_plainWorth_58 : decode cX0_plainWorth 58 = .ok (.goto 4, 3) := by decide +kernel
theorem d_X0_plainWorth_61 : decode cX0_plainWorth 61 = .ok (.iload_n 3, 1) := by decide +kernel
theorem d_X0_plainWorth_62 : decode cX0_plainWorth 62 = .ok (.ireturn, 1) := by decide +kernel
theorem d_X0_plainWorth_63 : decode cX0_plainWorth 63 = .ok (.iload_n 2, 1) := by decide +kernel
theorem d_X0_plainWorth_64 : decode cX0_plainWorth 64 = .ok (.iconst 2, 1) := by decide +kernel
theorem d_X0_plainWorth_65 : decode cX0_plainWorth 65 = .ok (.if_icmp .ne 7, 3) := by decide +kernel
theorem d_X0_plainWorth_68 : decode cX0_plainWorth 68 = .ok (.iconst 0, 1) := by decide +kernel
theorem d_X0_plainWorth_69 : decode cX0_plainWorth 69 = .ok (.goto 4, 3) := by decide +kernel
theorem d_X0_plainWorth_72 : decode cX0_plainWorth 72 = .ok (.iload_n 3, 1) := by decide +kernel
theorem d_X0_plainWorth_73 : decode cX0_plainWorth 73 = .ok (.ireturn, 1) := by decide +kernel
theorem d_X0_plainWorth_74 : decode cX0_plainWorth 74 = .ok (.iload_n 3, 1) := by decide +kernel
theorem d_X0_plainWorth_75 : decode cX0_plainWorth 75 = .ok (.ireturn, 1) := by decide +kernel
def t_X0_plainWorth_0 : List (Nat × QO) := [(0, o_al 0 1), (1, o_gf 0 6 4), (4, o_il 2 5), (5, o_cS 1 97 2 2 8), (8, o_is 3 9), (9, o_il 1 10), (10, o_sw [(1, 36), (2, 50), (3, 63)] 74), (36, o_il 2 37), (37, o_if (fun x => decide (x ≠ 0)) 46 40), (40, o_k 2 41), (41, o_il 3 42), (42, o_b (fun x y => x * y) 43)]
theorem ts_X0_plainWorth_0 (sx : QX) : ∀ q ∈ t_X0_plainWorth_0, q_Snd sx RX0 cX0_plainWorth 4 (some .int) q.1 q.2 := List.forall_mem_cons.mpr ⟨s_aload_n d_X0_plainWorth_0 rfl, List.forall_mem_cons.mpr ⟨s_gf d_X0_plainWorth_1 rfl (by decide) n_X0 in_X0 rfl k_1_69, List.forall_mem_cons.mpr ⟨s_iload_n d_X0_plainWorth_4 rfl, List.forall_mem_cons.mpr ⟨s_cN (host := "StoneApologies") rfl d_X0_plainWorth_5 (List.mem_of_getElem? (i := 7) rfl) k_2_57 k_1_1 k_2_58 ⟨by decide, by decide⟩ (by decide +kernel) (by decide), List.forall_mem_cons.mpr ⟨s_istore_n d_X0_plainWorth_8 rfl (by decide), List.forall_mem_cons.mpr ⟨s_iload_n d_X0_plainWorth_9 rfl, List.forall_mem_cons.mpr ⟨s_tsw d_X0_plainWorth_10 (by decide +kernel) (by decide) (by decide), List.forall_mem_cons.mpr ⟨s_iload_n d_X0_plainWorth_36 rfl, List.forall_mem_cons.mpr ⟨s_if_ne d_X0_plainWorth_37 (by decide), List.forall_mem_cons.mpr ⟨s_iconst d_X0_plainWorth_40 rfl, List.forall_mem_cons.mpr ⟨s_iload_n d_X0_plainWorth_41 rfl, List.forall_mem_cons.mpr ⟨s_imul d_X0_plainWorth_42, fun _ h => absurd h List.not_mem_nil⟩⟩⟩⟩⟩⟩⟩⟩⟩⟩⟩⟩
def t_X0_plainWorth_1 : List (Nat × QO) := [(43, o_goto 49), (46, o_il 3 47), (47, o_k 2 48), (48, o_bz (fun x y => x / y) 49), (49, o_ir false), (50, o_il 2 51), (51, o_k 1 52), (52, o_ic (fun x y => decide (x ≠ y)) 61 55), (55, o_k 3 56), (56, o_il 3 57), (57, o_b (fun x y => x * y) 58), (58, o_goto 62)]
theorem ts_X0_plainWorth_1 (sx : QX) : ∀ q ∈ t_X0_plainWorth_1, q_Snd sx RX0 cX0_plainWorth 4 (some .int) q.1 q.2 := List.forall_mem_cons.mpr ⟨s_goto d_X0_plainWorth_43 (by decide), List.forall_mem_cons.mpr ⟨s_iload_n d_X0_plainWorth_46 rfl, List.forall_mem_cons.mpr ⟨s_iconst d_X0_plainWorth_47 rfl, List.forall_mem_cons.mpr ⟨s_idiv d_X0_plainWorth_48, List.forall_mem_cons.mpr ⟨s_ir d_X0_plainWorth_49 rfl, List.forall_mem_cons.mpr ⟨s_iload_n d_X0_plainWorth_50 rfl, List.forall_mem_cons.mpr ⟨s_iconst d_X0_plainWorth_51 rfl, List.forall_mem_cons.mpr ⟨s_ic_ne d_X0_plainWorth_52 (by decide), List.forall_mem_cons.mpr ⟨s_iconst d_X0_plainWorth_55 rfl, List.forall_mem_cons.mpr ⟨s_iload_n d_X0_plainWorth_56 rfl, List.forall_mem_cons.mpr ⟨s_imul d_X0_plainWorth_57, List.forall_mem_cons.mpr ⟨s_goto d_X0_plainWorth_58 (by decide), fun _ h => absurd h List.not_mem_nil⟩⟩⟩⟩⟩⟩⟩⟩⟩⟩⟩⟩
def t_X0_plainWorth_2 : List (Nat × QO) := [(61, o_il 3 62), (62, o_ir false), (63, o_il 2 64), (64, o_k 2 65), (65, o_ic (fun x y => decide (x ≠ y)) 72 68), (68, o_k 0 69), (69, o_goto 73), (72, o_il 3 73), (73, o_ir false), (74, o_il 3 75), (75, o_ir false)]
theorem ts_X0_plainWorth_2 (sx : QX) : ∀ q ∈ t_X0_plainWorth_2, q_Snd sx RX0 cX0_plainWorth 4 (some .int) q.1 q.2 := List.forall_mem_cons.mpr ⟨s_iload_n d_X0_plainWorth_61 rfl, List.forall_mem_cons.mpr ⟨s_ir d_X0_plainWorth_62 rfl, List.forall_mem_cons.mpr ⟨s_iload_n d_X0_plainWorth_63 rfl, List.forall_mem_cons.mpr ⟨s_iconst d_X0_plainWorth_64 rfl, List.forall_mem_cons.mpr ⟨s_ic_ne d_X0_plainWorth_65 (by decide), List.forall_mem_cons.mpr ⟨s_iconst d_X0_plainWorth_68 rfl, List.forall_mem_cons.mpr ⟨s_goto d_X0_plainWorth_69 (by decide), List.forall_mem_cons.mpr ⟨s_iload_n d_X0_plainWorth_72 rfl, List.forall_mem_cons.mpr ⟨s_ir d_X0_plainWorth_73 rfl, List.forall_mem_cons.mpr ⟨s_iload_n d_X0_plainWorth_74 rfl, List.forall_mem_cons.mpr ⟨s_ir d_X0_plainWorth_75 rfl, fun _ h => absurd h List.not_mem_nil⟩⟩⟩⟩⟩⟩⟩⟩⟩⟩⟩
def t_X0_plainWorth (pc : Nat) : Option QO := cond (Nat.ble pc 42) (q_look (t_X0_plainWorth_0) pc) (cond (Nat.ble pc 58) (q_look (t_X0_plainWorth_1) pc) (q_look (t_X0_plainWorth_2) pc))
theorem ts_X0_plainWorth (sx : QX) (pc : Nat) : ∀ o, t_X0_plainWorth pc = some o → q_Snd sx RX0 cX0_plainWorth 4 (some .int) pc o := by
  unfold t_X0_plainWorth
  exact q_cb (q_look_all (ts_X0_plainWorth_0 sx)) (q_cb (q_look_all (ts_X0_plainWorth_1 sx)) (q_look_all (ts_X0_plainWorth_2 sx)))
theorem d_X0_spokenWorth_0 : decode cX0_spokenWorth 0 = .ok (.aload_n 0, 1) := by decide +kernel
theorem d_X0_spokenWorth_1 : decode cX0_spokenWorth 1 = .ok (.getfield 21, 3) := by decide +kernel
theorem d_X0_spokenWorth_4 : decode cX0_spokenWorth 4 = .ok (.iload_n 1, 1) := by decide +kernel
theorem d_X0_spokenWorth_5 : decode cX0_spokenWorth 5 = .ok (.invokestatic 65, 3) := by decide +kernel
theorem d_X0_spokenWorth_8 : decode cX0_spokenWorth 8 = .ok (.tableswitch 70 1 3 #[28, 33, 56], 28) := by decide +kernel
theorem d_X0_spokenWorth_36 : decode cX0_spokenWorth 36 = .ok (.iconst 2, 1) := by decide +kernel
theorem d_X0_spokenWorth_37 : decode cX0_spokenWorth 37 = .ok (.iload 4, 2) := by decide +kernel
theorem d_X0_spokenWorth_39 : decode cX0_spokenWorth 39 = .ok (.imul, 1) := by decide +kernel
theorem d_X0_spokenWorth_40 : decode cX0_spokenWorth 40 = .ok (.ireturn, 1) := by decide +kernel
theorem d_X0_spokenWorth_41 : decode cX0_spokenWorth 41 = .ok (.aload_n 0, 1) := by decide +kernel
theorem d_X0_spokenWorth_42 : decode cX0_spokenWorth 42 = .ok (.getfield 15, 3) := by decide +kernel
theorem d_X0_spokenWorth_45 : decode cX0_spokenWorth 45 = .ok (.iload_n 2, 1) := by decide +kernel
theorem d_X0_spokenWorth_46 : decode cX0_spokenWorth 46 = .ok (.invokestatic 65, 3) := by decide +kernel
theorem d_X0_spokenWorth_49 : decode cX0_spokenWorth 49 = .ok (.bipush 10, 2) := by decide +kernel
theorem d_X0_spokenWorth_51 : decode cX0_spokenWorth 51 = .ok (.if_icmp .gt 10, 3) := by decide +kernel
theorem d_X0_spokenWorth_54 : decode cX0_spokenWorth 54 = .ok (.iload 4, 2) := by decide +kernel
theorem d_X0_spokenWorth_56 : decode cX0_spokenWorth 56 = .ok (.iconst 4, 1) := by decide +kernel
theorem d_X0_spokenWorth_57 : decode cX0_spokenWorth 57 = .ok (.iadd, 1) := by decide +kernel
theorem d_X0_spokenWorth_58 : decode cX0_spokenWorth 58 = .ok (.goto 5, 3) := by decide +kernel
theorem d_X0_spokenWorth_61 : decode cX0_spokenWorth 61 = .ok (.iload 4, 2) := by decide +kernel
theorem d_X0_spokenWorth_63 : decode cX0_spokenWorth 63 = .ok (.ireturn, 1) := by decide +kernel
theorem d_X0_spokenWorth_64 : decode cX0_spokenWorth 64 = .ok (.iload_n 3, 1) := by decide +kernel
theorem d_X0_spokenWorth_65 : decode cX0_spokenWorth 65 = .ok (.ifCond .ne 10, 3) := by decide +kernel
theorem d_X0_spokenWorth_68 : decode cX0_spokenWorth 68 = .ok (.iload 4, 2) := by decide +kernel
theorem d_X0_spokenWorth_70 : decode cX0_spokenWorth 70 = .ok (.iconst 3, 1) := by decide +kernel
theorem d_X0_spokenWorth_71 : decode cX0_spokenWorth 71 = .ok (.iadd, 1) := by decide +kernel
theorem d_X0_spokenWorth_72 : decode cX0_spokenWorth 72 = .ok (.goto 5, 3) := by decide +kernel
theorem d_X0_spokenWorth_75 : decode cX0_spokenWorth 75 = .ok (.iload 4, 2) := by decide +kernel
theorem d_X0_spokenWorth_77 : decode cX0_spokenWorth 77 = .ok (.ireturn, 1) := by decide +kernel
theorem d_X0_spokenWorth_78 : decode cX0_spokenWorth 78 = .ok (.iload 4, 2) := by decide +kernel
theorem d_X0_spokenWorth_80 : decode cX0_spokenWorth 80 = .ok (.ireturn, 1) := by decide +kernel
def t_X0_spokenWorth_0 : List (Nat × QO) := [(0, o_al 0 1), (1, o_gf 0 7 4), (4, o_il 1 5), (5, o_cS 1 97 2 2 8), (8, o_sw [(1, 36), (2, 41), (3, 64)] 78), (36, o_k 2 37), (37, o_il 4 39), (39, o_b (fun x y => x * y) 40), (40, o_ir false), (41, o_al 0 42), (42, o_gf 0 5 45), (45, o_il 2 46)]
theorem ts_X0_spokenWorth_0 (sx : QX) : ∀ q ∈ t_X0_spokenWorth_0, q_Snd sx RX0 cX0_spokenWorth 5 (some .int) q.1 q.2 := List.forall_mem_cons.mpr ⟨s_aload_n d_X0_spokenWorth_0 rfl, List.forall_mem_cons.mpr ⟨s_gf d_X0_spokenWorth_1 rfl (by decide) n_X0 in_X0 rfl k_1_71, List.forall_mem_cons.mpr ⟨s_iload_n d_X0_spokenWorth_4 rfl, List.forall_mem_cons.mpr ⟨s_cN (host := "StoneApologies") rfl d_X0_spokenWorth_5 (List.mem_of_getElem? (i := 7) rfl) k_2_57 k_1_1 k_2_58 ⟨by decide, by decide⟩ (by decide +kernel) (by decide), List.forall_mem_cons.mpr ⟨s_tsw d_X0_spokenWorth_8 (by decide +kernel) (by decide) (by decide), List.forall_mem_cons.mpr ⟨s_iconst d_X0_spokenWorth_36 rfl, List.forall_mem_cons.mpr ⟨s_iload d_X0_spokenWorth_37, List.forall_mem_cons.mpr ⟨s_imul d_X0_spokenWorth_39, List.forall_mem_cons.mpr ⟨s_ir d_X0_spokenWorth_40 rfl, List.forall_mem_cons.mpr ⟨s_aload_n d_X0_spokenWorth_41 rfl, List.forall_mem_cons.mpr ⟨s_gf d_X0_spokenWorth_42 rfl (by decide) n_X0 in_X0 rfl k_1_66, List.forall_mem_cons.mpr ⟨s_iload_n d_X0_spokenWorth_45 rfl, fun _ h => absurd h List.not_mem_nil⟩⟩⟩⟩⟩⟩⟩⟩⟩⟩⟩⟩
def t_X0_spokenWorth_1 : List (Nat × QO) := [(46, o_cS 1 97 2 2 49), (49, o_k 10 51), (51, o_ic (fun x y => decide (y < x)) 61 54), (54, o_il 4 56), (56, o_k 4 57), (57, o_b (fun x y => x + y) 58), (58, o_goto 63), (61, o_il 4 63), (63, o_ir false), (64, o_il 3 65), (65, o_if (fun x => decide (x ≠ 0)) 75 68), (68, o_il 4 70)]
theorem ts_X0_spokenWorth_1 (sx : QX) : ∀ q ∈ t_X0_spokenWorth_1, q_Snd sx RX0 cX0_spokenWorth 5 (some .int) q.1 q.2 := List.forall_mem_cons.mpr ⟨s_cN (host := "StoneApologies") rfl d_X0_spokenWorth_46 (List.mem_of_getElem? (i := 7) rfl) k_2_57 k_1_1 k_2_58 ⟨by decide, by decide⟩ (by decide +kernel) (by decide), List.forall_mem_cons.mpr ⟨s_bipush d_X0_spokenWorth_49 rfl, List.forall_mem_cons.mpr ⟨s_ic_gt d_X0_spokenWorth_51 (by decide), List.forall_mem_cons.mpr ⟨s_iload d_X0_spokenWorth_54, List.forall_mem_cons.mpr ⟨s_iconst d_X0_spokenWorth_56 rfl, List.forall_mem_cons.mpr ⟨s_iadd d_X0_spokenWorth_57, List.forall_mem_cons.mpr ⟨s_goto d_X0_spokenWorth_58 (by decide), List.forall_mem_cons.mpr ⟨s_iload d_X0_spokenWorth_61, List.forall_mem_cons.mpr ⟨s_ir d_X0_spokenWorth_63 rfl, List.forall_mem_cons.mpr ⟨s_iload_n d_X0_spokenWorth_64 rfl, List.forall_mem_cons.mpr ⟨s_if_ne d_X0_spokenWorth_65 (by decide), List.forall_mem_cons.mpr ⟨s_iload d_X0_spokenWorth_68, fun _ h => absurd h List.not_mem_nil⟩⟩⟩⟩⟩⟩⟩⟩⟩⟩⟩⟩
def t_X0_spokenWorth_2 : List (Nat × QO) := [(70, o_k 3 71), (71, o_b (fun x y => x + y) 72), (72, o_goto 77), (75, o_il 4 77), (77, o_ir false), (78, o_il 4 80), (80, o_ir false)]
theorem ts_X0_spokenWorth_2 (sx : QX) : ∀ q ∈ t_X0_spokenWorth_2, q_Snd sx RX0 cX0_spokenWorth 5 (some .int) q.1 q.2 := List.forall_mem_cons.mpr ⟨s_iconst d_X0_spokenWorth_70 rfl, List.forall_mem_cons.mpr ⟨s_iadd d_X0_spokenWorth_71, List.forall_mem_cons.mpr ⟨s_goto d_X0_spokenWorth_72 (by decide), List.forall_mem_cons.mpr ⟨s_iload d_X0_spokenWorth_75, List.forall_mem_cons.mpr ⟨s_ir d_X0_spokenWorth_77 rfl, List.forall_mem_cons.mpr ⟨s_iload d_X0_spokenWorth_78, List.forall_mem_cons.mpr ⟨s_ir d_X0_spokenWorth_80 rfl, fun _ h => absurd h List.not_mem_nil⟩⟩⟩⟩⟩⟩⟩
def t_X0_spokenWorth (pc : Nat) : Option QO := cond (Nat.ble pc 45) (q_look (t_X0_spokenWorth_0) pc) (cond (Nat.ble pc 68) (q_look (t_X0_spokenWorth_1) pc) (q_look (t_X0_spokenWorth_2) pc))
theorem ts_X0_spokenWorth (sx : QX) (pc : Nat) : ∀ o, t_X0_spokenWorth pc = some o → q_Snd sx RX0 cX0_spokenWorth 5 (some .int) pc o := by
  unfold t_X0_spokenWorth
  exact q_cb (q_look_all (ts_X0_spokenWorth_0 sx)) (q_cb (q_look_all (ts_X0_spokenWorth_1 sx)) (q_look_all (ts_X0_spokenWorth_2 sx)))
theorem d_X0_coldFor_0 : decode cX0_coldFor 0 = .ok (.aload_n 0, 1) := by decide +kernel
theorem d_X0_coldFor_1 : decode cX0_coldFor 1 = .ok (.getfield 9, 3) := by decide +kernel
theorem d_X0_coldFor_4 : decode cX0_coldFor 4 = .ok (.iload_n 1, 1) := by decide +kernel
theorem d_X0_coldFor_5 : decode cX0_coldFor 5 = .ok (.invokestatic 65, 3) := by decide +kernel
theorem d_X0_coldFor_8 : decode cX0_coldFor 8 = .ok (.iconst 2, 1) := by decide +kernel
theorem d_X0_coldFor_9 : decode cX0_coldFor 9 = .ok (.if_icmp .ne 12, 3) := by decide +kernel
theorem d_X0_coldFor_12 : decode cX0_coldFor 12 = .ok (.iconst 2, 1) := by decide +kernel
theorem d_X0_coldFor_13 : decode cX0_coldFor 13 = .ok (.aload_n 0, 1) := by decide +kernel
theorem d_X0_coldFor_14 : decode cX0_coldFor 14 = .ok (.getfield 46, 3) := by decide +kernel
theorem d_X0_coldFor_17 : decode cX0_coldFor 17 = .ok (.imul, 1) := by decide +kernel
theorem d_X0_coldFor_18 : decode cX0_coldFor 18 = .ok (.goto 7, 3) := by decide +kernel
theorem d_X0_coldFor_21 : decode cX0_coldFor 21 = .ok (.aload_n 0, 1) := by decide +kernel
theorem d_X0_coldFor_22 : decode cX0_coldFor 22 = .ok (.getfield 46, 3) := by decide +kernel
theorem d_X0_coldFor_25 : decode cX0_coldFor 25 = .ok (.ireturn, 1) := by decide +kernel
def t_X0_coldFor_0 : List (Nat × QO) := [(0, o_al 0 1), (1, o_gf 0 4 4), (4, o_il 1 5), (5, o_cS 1 97 2 2 8), (8, o_k 2 9), (9, o_ic (fun x y => decide (x ≠ y)) 21 12), (12, o_k 2 13), (13, o_al 0 14), (14, o_gf 0 3 17), (17, o_b (fun x y => x * y) 18), (18, o_goto 25), (21, o_al 0 22)]
theorem ts_X0_coldFor_0 (sx : QX) : ∀ q ∈ t_X0_coldFor_0, q_Snd sx RX0 cX0_coldFor 2 (some .int) q.1 q.2 := List.forall_mem_cons.mpr ⟨s_aload_n d_X0_coldFor_0 rfl, List.forall_mem_cons.mpr ⟨s_gf d_X0_coldFor_1 rfl (by decide) n_X0 in_X0 rfl k_1_63, List.forall_mem_cons.mpr ⟨s_iload_n d_X0_coldFor_4 rfl, List.forall_mem_cons.mpr ⟨s_cN (host := "StoneApologies") rfl d_X0_coldFor_5 (List.mem_of_getElem? (i := 7) rfl) k_2_57 k_1_1 k_2_58 ⟨by decide, by decide⟩ (by decide +kernel) (by decide), List.forall_mem_cons.mpr ⟨s_iconst d_X0_coldFor_8 rfl, List.forall_mem_cons.mpr ⟨s_ic_ne d_X0_coldFor_9 (by decide), List.forall_mem_cons.mpr ⟨s_iconst d_X0_coldFor_12 rfl, List.forall_mem_cons.mpr ⟨s_aload_n d_X0_coldFor_13 rfl, List.forall_mem_cons.mpr ⟨s_gf d_X0_coldFor_14 rfl (by decide) n_X0 in_X0 rfl k_1_62, List.forall_mem_cons.mpr ⟨s_imul d_X0_coldFor_17, List.forall_mem_cons.mpr ⟨s_goto d_X0_coldFor_18 (by decide), List.forall_mem_cons.mpr ⟨s_aload_n d_X0_coldFor_21 rfl, fun _ h => absurd h List.not_mem_nil⟩⟩⟩⟩⟩⟩⟩⟩⟩⟩⟩⟩
def t_X0_coldFor_1 : List (Nat × QO) := [(22, o_gf 0 3 25), (25, o_ir false)]
theorem ts_X0_coldFor_1 (sx : QX) : ∀ q ∈ t_X0_coldFor_1, q_Snd sx RX0 cX0_coldFor 2 (some .int) q.1 q.2 := List.forall_mem_cons.mpr ⟨s_gf d_X0_coldFor_22 rfl (by decide) n_X0 in_X0 rfl k_1_62, List.forall_mem_cons.mpr ⟨s_ir d_X0_coldFor_25 rfl, fun _ h => absurd h List.not_mem_nil⟩⟩
def t_X0_coldFor (pc : Nat) : Option QO := cond (Nat.ble pc 21) (q_look (t_X0_coldFor_0) pc) (q_look (t_X0_coldFor_1) pc)
theorem ts_X0_coldFor (sx : QX) (pc : Nat) : ∀ o, t_X0_coldFor pc = some o → q_Snd sx RX0 cX0_coldFor 2 (some .int) pc o := by
  unfold t_X0_coldFor
  exact q_cb (q_look_all (ts_X0_coldFor_0 sx)) (q_look_all (ts_X0_coldFor_1 sx))
theorem d_X0_vowPlace_0 : decode cX0_vowPlace 0 = .ok (.iload_n 0, 1) := by decide +kernel
theorem d_X0_vowPlace_1 : decode cX0_vowPlace 1 = .ok (.bipush 6, 2) := by decide +kernel
theorem d_X0_vowPlace_3 : decode cX0_vowPlace 3 = .ok (.imul, 1) := by decide +kernel
theorem d_X0_vowPlace_4 : decode cX0_vowPlace 4 = .ok (.iload_n 1, 1) := by decide +kernel
theorem d_X0_vowPlace_5 : decode cX0_vowPlace 5 = .ok (.iadd, 1) := by decide +kernel
theorem d_X0_vowPlace_6 : decode cX0_vowPlace 6 = .ok (.ireturn, 1) := by decide +kernel
def t_X0_vowPlace_0 : List (Nat × QO) := [(0, o_il 0 1), (1, o_k 6 3), (3, o_b (fun x y => x * y) 4), (4, o_il 1 5), (5, o_b (fun x y => x + y) 6), (6, o_ir false)]
theorem ts_X0_vowPlace_0 (sx : QX) : ∀ q ∈ t_X0_vowPlace_0, q_Snd sx RX0 cX0_vowPlace 2 (some .int) q.1 q.2 := List.forall_mem_cons.mpr ⟨s_iload_n d_X0_vowPlace_0 rfl, List.forall_mem_cons.mpr ⟨s_bipush d_X0_vowPlace_1 rfl, List.forall_mem_cons.mpr ⟨s_imul d_X0_vowPlace_3, List.forall_mem_cons.mpr ⟨s_iload_n d_X0_vowPlace_4 rfl, List.forall_mem_cons.mpr ⟨s_iadd d_X0_vowPlace_5, List.forall_mem_cons.mpr ⟨s_ir d_X0_vowPlace_6 rfl, fun _ h => absurd h List.not_mem_nil⟩⟩⟩⟩⟩⟩
def t_X0_vowPlace (pc : Nat) : Option QO := q_look (t_X0_vowPlace_0) pc
theorem ts_X0_vowPlace (sx : QX) (pc : Nat) : ∀ o, t_X0_vowPlace pc = some o → q_Snd sx RX0 cX0_vowPlace 2 (some .int) pc o := by
  unfold t_X0_vowPlace
  exact q_look_all (ts_X0_vowPlace_0 sx)
theorem d_X0_wordPlace_0 : decode cX0_wordPlace 0 = .ok (.iload_n 0, 1) := by decide +kernel
theorem d_X0_wordPlace_1 : decode cX0_wordPlace 1 = .ok (.bipush 6, 2) := by decide +kernel
theorem d_X0_wordPlace_3 : decode cX0_wordPlace 3 = .ok (.imul, 1) := by decide +kernel
theorem d_X0_wordPlace_4 : decode cX0_wordPlace 4 = .ok (.iload_n 1, 1) := by decide +kernel
theorem d_X0_wordPlace_5 : decode cX0_wordPlace 5 = .ok (.iadd, 1) := by decide +kernel
theorem d_X0_wordPlace_6 : decode cX0_wordPlace 6 = .ok (.ireturn, 1) := by decide +kernel
def t_X0_wordPlace_0 : List (Nat × QO) := [(0, o_il 0 1), (1, o_k 6 3), (3, o_b (fun x y => x * y) 4), (4, o_il 1 5), (5, o_b (fun x y => x + y) 6), (6, o_ir false)]
theorem ts_X0_wordPlace_0 (sx : QX) : ∀ q ∈ t_X0_wordPlace_0, q_Snd sx RX0 cX0_wordPlace 2 (some .int) q.1 q.2 := List.forall_mem_cons.mpr ⟨s_iload_n d_X0_wordPlace_0 rfl, List.forall_mem_cons.mpr ⟨s_bipush d_X0_wordPlace_1 rfl, List.forall_mem_cons.mpr ⟨s_imul d_X0_wordPlace_3, List.forall_mem_cons.mpr ⟨s_iload_n d_X0_wordPlace_4 rfl, List.forall_mem_cons.mpr ⟨s_iadd d_X0_wordPlace_5, List.forall_mem_cons.mpr ⟨s_ir d_X0_wordPlace_6 rfl, fun _ h => absurd h List.not_mem_nil⟩⟩⟩⟩⟩⟩
def t_X0_wordPlace (pc : Nat) : Option QO := q_look (t_X0_wordPlace_0) pc
theorem ts_X0_wordPlace (sx : QX) (pc : Nat) : ∀ o, t_X0_wordPlace pc = some o → q_Snd sx RX0 cX0_wordPlace 2 (some .int) pc o := by
  unfold t_X0_wordPlace
  exact q_look_all (ts_X0_wordPlace_0 sx)
theorem d_X0_sayingPlace_0 : decode cX0_sayingPlace 0 = .ok (.iload_n 0, 1) := by decide +kernel
theorem d_X0_sayingPlace_1 : decode cX0_sayingPlace 1 = .ok (.bipush 6, 2) := by decide +kernel
theorem d_X0_sayingPlace_3 : decode cX0_sayingPlace 3 = .ok (.imul, 1) := by decide +kernel
theorem d_X0_sayingPlace_4 : decode cX0_sayingPlace 4 = .ok (.iload_n 1, 1) := by decide +kernel
theorem d_X0_sayingPlace_5 : decode cX0_sayingPlace 5 = .ok (.iadd, 1) := by decide +kernel
theorem d_X0_sayingPlace_6 : decode cX0_sayingPlace 6 = .ok (.bipush 6, 2) := by decide +kernel
theorem d_X0_sayingPlace_8 : decode cX0_sayingPlace 8 = .ok (.imul, 1) := by decide +kernel
theorem d_X0_sayingPlace_9 : decode cX0_sayingPlace 9 = .ok (.iload_n 2, 1) := by decide +kernel
theorem d_X0_sayingPlace_10 : decode cX0_sayingPlace 10 = .ok (.iadd, 1) := by decide +kernel
theorem d_X0_sayingPlace_11 : decode cX0_sayingPlace 11 = .ok (.ireturn, 1) := by decide +kernel
def t_X0_sayingPlace_0 : List (Nat × QO) := [(0, o_il 0 1), (1, o_k 6 3), (3, o_b (fun x y => x * y) 4), (4, o_il 1 5), (5, o_b (fun x y => x + y) 6), (6, o_k 6 8), (8, o_b (fun x y => x * y) 9), (9, o_il 2 10), (10, o_b (fun x y => x + y) 11), (11, o_ir false)]
theorem ts_X0_sayingPlace_0 (sx : QX) : ∀ q ∈ t_X0_sayingPlace_0, q_Snd sx RX0 cX0_sayingPlace 3 (some .int) q.1 q.2 := List.forall_mem_cons.mpr ⟨s_iload_n d_X0_sayingPlace_0 rfl, List.forall_mem_cons.mpr ⟨s_bipush d_X0_sayingPlace_1 rfl, List.forall_mem_cons.mpr ⟨s_imul d_X0_sayingPlace_3, List.forall_mem_cons.mpr ⟨s_iload_n d_X0_sayingPlace_4 rfl, List.forall_mem_cons.mpr ⟨s_iadd d_X0_sayingPlace_5, List.forall_mem_cons.mpr ⟨s_bipush d_X0_sayingPlace_6 rfl, List.forall_mem_cons.mpr ⟨s_imul d_X0_sayingPlace_8, List.forall_mem_cons.mpr ⟨s_iload_n d_X0_sayingPlace_9 rfl, List.forall_mem_cons.mpr ⟨s_iadd d_X0_sayingPlace_10, List.forall_mem_cons.mpr ⟨s_ir d_X0_sayingPlace_11 rfl, fun _ h => absurd h List.not_mem_nil⟩⟩⟩⟩⟩⟩⟩⟩⟩⟩
def t_X0_sayingPlace (pc : Nat) : Option QO := q_look (t_X0_sayingPlace_0) pc
theorem ts_X0_sayingPlace (sx : QX) (pc : Nat) : ∀ o, t_X0_sayingPlace pc = some o → q_Snd sx RX0 cX0_sayingPlace 3 (some .int) pc o := by
  unfold t_X0_sayingPlace
  exact q_look_all (ts_X0_sayingPlace_0 sx)
theorem d_X1_seek_0 : decode cX1_seek 0 = .ok (.aload_n 0, 1) := by decide +kernel
theorem d_X1_seek_1 : decode cX1_seek 1 = .ok (.getfield 11, 3) := by decide +kernel
theorem d_X1_seek_4 : decode cX1_seek 4 = .ok (.iconst 0, 1) := by decide +kernel
theorem d_X1_seek_5 : decode cX1_seek 5 = .ok (.invokestatic 27, 3) := by decide +kernel
theorem d_X1_seek_8 : decode cX1_seek 8 = .ok (.astore_n 2, 1) := by decide +kernel
theorem d_X1_seek_9 : decode cX1_seek 9 = .ok (.aload_n 2, 1) := by decide +kernel
theorem d_X1_seek_10 : decode cX1_seek 10 = .ok (.ifnonnull 4, 3) := by decide +kernel
theorem d_X1_seek_13 : decode cX1_seek 13 = .ok (.return_, 1) := by decide +kernel
theorem d_X1_seek_14 : decode cX1_seek 14 = .ok (.aload_n 2, 1) := by decide +kernel
theorem d_X1_seek_15 : decode cX1_seek 15 = .ok (.aload_n 1, 1) := by decide +kernel
theorem d_X1_seek_16 : decode cX1_seek 16 = .ok (.invokevirtual 31, 3) := by decide +kernel
theorem d_X1_seek_19 : decode cX1_seek 19 = .ok (.aload_n 0, 1) := by decide +kernel
theorem d_X1_seek_20 : decode cX1_seek 20 = .ok (.aload_n 2, 1) := by decide +kernel
theorem d_X1_seek_21 : decode cX1_seek 21 = .ok (.iconst 0, 1) := by decide +kernel
theorem d_X1_seek_22 : decode cX1_seek 22 = .ok (.invokevirtual 35, 3) := by decide +kernel
theorem d_X1_seek_25 : decode cX1_seek 25 = .ok (.putfield 39, 3) := by decide +kernel
theorem d_X1_seek_28 : decode cX1_seek 28 = .ok (.aload_n 0, 1) := by decide +kernel
theorem d_X1_seek_29 : decode cX1_seek 29 = .ok (.iconst (-1), 1) := by decide +kernel
theorem d_X1_seek_30 : decode cX1_seek 30 = .ok (.putfield 43, 3) := by decide +kernel
theorem d_X1_seek_33 : decode cX1_seek 33 = .ok (.aload_n 0, 1) := by decide +kernel
theorem d_X1_seek_34 : decode cX1_seek 34 = .ok (.iconst 0, 1) := by decide +kernel
theorem d_X1_seek_35 : decode cX1_seek 35 = .ok (.iconst 0, 1) := by decide +kernel
theorem d_X1_seek_36 : decode cX1_seek 36 = .ok (.iconst 0, 1) := by decide +kernel
theorem d_X1_seek_37 : decode cX1_seek 37 = .ok (.invokestatic 46, 3) := by decide +kernel
theorem d_X1_seek_40 : decode cX1_seek 40 = .ok (.return_, 1) := by decide +kernel
def t_X1_seek_0 : List (Nat × QO) := [(0, o_al 0 1), (1, o_gf 1 0 4), (4, o_k 0 5), (5, o_cS 2 101 2 2 8), (8, o_as 2 9), (9, o_al 2 10), (10, o_ifnull 13 14), (13, o_vr), (14, o_al 2 15), (15, o_al 1 16), (16, o_cV 0 3 20 2 2 19), (19, o_al 0 20)]
theorem ts_X1_seek_0 (sx : QX) : ∀ q ∈ t_X1_seek_0, q_Snd sx RX1 cX1_seek 3 none q.1 q.2 := List.forall_mem_cons.mpr ⟨s_aload_n d_X1_seek_0 rfl, List.forall_mem_cons.mpr ⟨s_gf d_X1_seek_1 rfl (by decide) n_X1 in_X1 rfl k_1_190, List.forall_mem_cons.mpr ⟨s_iconst d_X1_seek_4 rfl, List.forall_mem_cons.mpr ⟨s_cN (host := "StoneApologies") rfl d_X1_seek_5 (List.mem_of_getElem? (i := 17) rfl) k_2_239 k_1_1 k_3_0 ⟨by decide, by decide⟩ (by decide +kernel) (by decide), List.forall_mem_cons.mpr ⟨s_astore_n d_X1_seek_8 rfl (by decide), List.forall_mem_cons.mpr ⟨s_aload_n d_X1_seek_9 rfl, List.forall_mem_cons.mpr ⟨s_ifnonnull d_X1_seek_10 (by decide), List.forall_mem_cons.mpr ⟨s_vr d_X1_seek_13 rfl, List.forall_mem_cons.mpr ⟨s_aload_n d_X1_seek_14 rfl, List.forall_mem_cons.mpr ⟨s_aload_n d_X1_seek_15 rfl, List.forall_mem_cons.mpr ⟨s_cV (T := TX3) (N := 8) rfl d_X1_seek_16 rfl k_3_119 k_3_2 k_3_3 k_1_4 k_3_4 ⟨by decide, by decide⟩ (by decide +kernel) (by decide), List.forall_mem_cons.mpr ⟨s_aload_n d_X1_seek_19 rfl, fun _ h => absurd h List.not_mem_nil⟩⟩⟩⟩⟩⟩⟩⟩⟩⟩⟩⟩
def t_X1_seek_1 : List (Nat × QO) := [(20, o_al 2 21), (21, o_k 0 22), (22, o_cV 1 3 22 4 2 25), (25, o_pf 1 3 28), (28, o_al 0 29), (29, o_k (-1) 30), (30, o_pf 1 4 33), (33, o_al 0 34), (34, o_k 0 35), (35, o_k 0 36), (36, o_k 0 37), (37, o_cS 0 15 8 4 40)]
theorem ts_X1_seek_1 (sx : QX) : ∀ q ∈ t_X1_seek_1, q_Snd sx RX1 cX1_seek 3 none q.1 q.2 := List.forall_mem_cons.mpr ⟨s_aload_n d_X1_seek_20 rfl, List.forall_mem_cons.mpr ⟨s_iconst d_X1_seek_21 rfl, List.forall_mem_cons.mpr ⟨s_cV (T := TX3) (N := 8) rfl d_X1_seek_22 rfl k_3_120 k_3_121 k_3_122 k_1_4 k_3_123 ⟨by decide, by decide⟩ (by decide +kernel) (by decide), List.forall_mem_cons.mpr ⟨s_pf tyX1 d_X1_seek_25 rfl (by decide) n_X1 in_X1 rfl k_1_194 tyX1_ok nmX1 rfl rfl, List.forall_mem_cons.mpr ⟨s_aload_n d_X1_seek_28 rfl, List.forall_mem_cons.mpr ⟨s_iconst d_X1_seek_29 rfl, List.forall_mem_cons.mpr ⟨s_pf tyX1 d_X1_seek_30 rfl (by decide) n_X1 in_X1 rfl k_1_196 tyX1_ok nmX1 rfl rfl, List.forall_mem_cons.mpr ⟨s_aload_n d_X1_seek_33 rfl, List.forall_mem_cons.mpr ⟨s_iconst d_X1_seek_34 rfl, List.forall_mem_cons.mpr ⟨s_iconst d_X1_seek_35 rfl, List.forall_mem_cons.mpr ⟨s_iconst d_X1_seek_36 rfl, List.forall_mem_cons.mpr ⟨s_cS rfl d_X1_seek_37 k_3_124 k_3_125 k_1_7 k_3_126 ⟨by decide, by decide⟩ (by decide +kernel) (by decide), fun _ h => absurd h List.not_mem_nil⟩⟩⟩⟩⟩⟩⟩⟩⟩⟩⟩⟩
def t_X1_seek_2 : List (Nat × QO) := [(40, o_vr)]
theorem ts_X1_seek_2 (sx : QX) : ∀ q ∈ t_X1_seek_2, q_Snd sx RX1 cX1_seek 3 none q.1 q.2 := List.forall_mem_cons.mpr ⟨s_vr d_X1_seek_40 rfl, fun _ h => absurd h List.not_mem_nil⟩
def t_X1_seek (pc : Nat) : Option QO := cond (Nat.ble pc 19) (q_look (t_X1_seek_0) pc) (cond (Nat.ble pc 37) (q_look (t_X1_seek_1) pc) (q_look (t_X1_seek_2) pc))
theorem ts_X1_seek (sx : QX) (pc : Nat) : ∀ o, t_X1_seek pc = some o → q_Snd sx RX1 cX1_seek 3 none pc o := by
  unfold t_X1_seek
  exact q_cb (q_look_all (ts_X1_seek_0 sx)) (q_cb (q_look_all (ts_X1_seek_1 sx)) (q_look_all (ts_X1_seek_2 sx)))
theorem d_X1_extend_0 : decode cX1_extend 0 = .ok (.iload_n 3, 1) := by decide +kernel
theorem d_X1_extend_1 : decode cX1_extend 1 = .ok (.aload_n 0, 1) := by decide +kernel
theorem d_X1_extend_2 : decode cX1_extend 2 = .ok (.getfield 39, 3) := by decide +kernel
theorem d_X1_extend_5 : decode cX1_extend 5 = .ok (.iadd, 1) := by decide +kernel
theorem d_X1_extend_6 : decode cX1_extend 6 = .ok (.iload_n 1, 1) := by decide +kernel
theorem d_X1_extend_7 : decode cX1_extend 7 = .ok (.isub, 1) := by decide +kernel
theorem d_X1_extend_8 : decode cX1_extend 8 = .ok (.aload_n 0, 1) := by decide +kernel
theorem d_X1_extend_9 : decode cX1_extend 9 = .ok (.getfield 43, 3) := by decide +kernel
theorem d_X1_extend_12 : decode cX1_extend 12 = .ok (.if_icmp .gt 4, 3) := by decide +kernel
theorem d_X1_extend_15 : decode cX1_extend 15 = .ok (.return_, 1) := by decide +kernel
theorem d_X1_extend_16 : decode cX1_extend 16 = .ok (.iload_n 1, 1) := by decide +kernel
theorem d_X1_extend_17 : decode cX1_extend 17 = .ok (.aload_n 0, 1) := by decide +kernel
theorem d_X1_extend_18 : decode cX1_extend 18 = .ok (.getfield 39, 3) := by decide +kernel
theorem d_X1_extend_21 : decode cX1_extend 21 = .ok (.if_icmp .lt 20, 3) := by decide +kernel
theorem d_X1_extend_24 : decode cX1_extend 24 = .ok (.aload_n 0, 1) := by decide +kernel
theorem d_X1_extend_25 : decode cX1_extend 25 = .ok (.iload_n 3, 1) := by decide +kernel
theorem d_X1_extend_26 : decode cX1_extend 26 = .ok (.putfield 43, 3) := by decide +kernel
theorem d_X1_extend_29 : decode cX1_extend 29 = .ok (.aload_n 0, 1) := by decide +kernel
theorem d_X1_extend_30 : decode cX1_extend 30 = .ok (.getfield 17, 3) := by decide +kernel
theorem d_X1_extend_33 : decode cX1_extend 33 = .ok (.aload_n 0, 1) := by decide +kernel
theorem d_X1_extend_34 : decode cX1_extend 34 = .ok (.getfield 21, 3) := by decide +kernel
theorem d_X1_extend_37 : decode cX1_extend 37 = .ok (.invokestatic 50, 3) := by decide +kernel
theorem d_X1_extend_40 : decode cX1_extend 40 = .ok (.return_, 1) := by decide +kernel
theorem d_X1_extend_41 : decode cX1_extend 41 = .ok (.aload_n 0, 1) := by decide +kernel
theorem d_X1_extend_42 : decode cX1_extend 42 = .ok (.getfield 11, 3) := by decide +kernel
theorem d_X1_extend_45 : decode cX1_extend 45 = .ok (.iload_n 1, 1) := by decide +kernel
theorem d_X1_extend_46 : decode cX1_extend 46 = .ok (.invokestatic 27, 3) := by decide +kernel
theorem d_X1_extend_49 : decode cX1_extend 49 = .ok (.astore 4, 2) := by decide +kernel
theorem d_X1_extend_51 : decode cX1_extend 51 = .ok (.aload_n 0, 1) := by decide +kernel
theorem d_X1_extend_52 : decode cX1_extend 52 = .ok (.getfield 11, 3) := by decide +kernel
theorem d_X1_extend_55 : decode cX1_extend 55 = .ok (.iload_n 1, 1) := by decide +kernel
theorem d_X1_extend_56 : decode cX1_extend 56 = .ok (.iconst 1, 1) := by decide +kernel
theorem d_X1_extend_57 : decode cX1_extend 57 = .ok (.iadd, 1) := by decide +kernel
theorem d_X1_extend_58 : decode cX1_extend 58 = .ok (.invokestatic 27, 3) := by decide +kernel
theorem d_X1_extend_61 : decode cX1_extend 61 = .ok (.astore 5, 2) := by decide +kernel
theorem d_X1_extend_63 : decode cX1_extend 63 = .ok (.aload_n 0, 1) := by decide +kernel
theorem d_X1_extend_64 : decode cX1_extend 64 = .ok (.getfield 11, 3) := by decide +kernel
theorem d_X1_extend_67 : decode cX1_extend 67 = .ok (.iconst 0, 1) := by decide +kernel
theorem d_X1_extend_68 : decode cX1_extend 68 = .ok (.invokestatic 27, 3) := by decide +kernel
theorem d_X1_extend_71 : decode cX1_extend 71 = .ok (.astore 6, 2) := by decide +kernel
theorem d_X1_extend_73 : decode cX1_extend 73 = .ok (.aload 4, 2) := by decide +kernel
theorem d_X1_extend_75 : decode cX1_extend 75 = .ok (.ifnull 13, 3) := by decide +kernel
theorem d_X1_extend_78 : decode cX1_extend 78 = .ok (.aload 5, 2) := by decide +kernel
theorem d_X1_extend_80 : decode cX1_extend 80 = .ok (.ifnull 8, 3) := by decide +kernel
theorem d_X1_extend_83 : decode cX1_extend 83 = .ok (.aload 6, 2) := by decide +kernel
theorem d_X1_extend_85 : decode cX1_extend 85 = .ok (.ifnonnull 4, 3) := by decide +kernel
theorem d_X1_extend_88 : decode cX1_extend 88 = .ok (.return_, 1) := by decide +kernel
theorem d_X1_extend_89 : decode cX1_extend 89 = .ok (.iconst 0, 1) := by decide +kernel
theorem d_X1_extend_90 : decode cX1_extend 90 = .ok (.istore 7, 2) := by decide +kernel
theorem d_X1_extend_92 : decode cX1_extend 92 = .ok (.iload 7, 2) := by decide +kernel
theorem d_X1_extend_94 : decode cX1_extend 94 = .ok (.aload 4, 2) := by decide +kernel
theorem d_X1_extend_96 : decode cX1_extend 96 = .ok (.getfield 54, 3) := by decide +kernel
theorem d_X1_extend_99 : decode cX1_extend 99 = .ok (.getfield 58, 3) := by decide +kernel
theorem d_X1_extend_102 : decode cX1_extend 102 = .ok (.if_icmp .ge 88, 3) := by decide +kernel
theorem d_X1_extend_105 : decode cX1_extend 105 = .ok (.iload_n 2, 1) := by decide +kernel
theorem d_X1_extend_106 : decode cX1_extend 106 = .ok (.iload 7, 2) := by decide +kernel
theorem d_X1_extend_108 : decode cX1_extend 108 = .ok (.ishr, 1) := by decide +kernel
theorem d_X1_extend_109 : decode cX1_extend 109 = .ok (.iconst 1, 1) := by decide +kernel
theorem d_X1_extend_110 : decode cX1_extend 110 = .ok (.iand, 1) := by decide +kernel
theorem d_X1_extend_111 : decode cX1_extend 111 = .ok (.iconst 1, 1) := by decide +kernel
theorem d_X1_extend_112 : decode cX1_extend 112 = .ok (.if_icmp .eq 72, 3) := by decide +kernel
theorem d_X1_extend_115 : decode cX1_extend 115 = .ok (.aload 6, 2) := by decide +kernel
theorem d_X1_extend_117 : decode cX1_extend 117 = .ok (.iload 7, 2) := by decide +kernel
theorem d_X1_extend_119 : decode cX1_extend 119 = .ok (.iconst 0, 1) := by decide +kernel
theorem d_X1_extend_120 : decode cX1_extend 120 = .ok (.invokevirtual 63, 3) := by decide +kernel
theorem d_X1_extend_123 : decode cX1_extend 123 = .ok (.ifCond .ne 6, 3) := by decide +kernel
theorem d_X1_extend_126 : decode cX1_extend 126 = .ok (.goto 58, 3) := by decide +kernel
theorem d_X1_extend_129 : decode cX1_extend 129 = .ok (.aload_n 0, 1) := by decide +kernel
theorem d_X1_extend_130 : decode cX1_extend 130 = .ok (.getfield 17, 3) := by decide +kernel
theorem d_X1_extend_133 : decode cX1_extend 133 = .ok (.iload_n 1, 1) := by decide +kernel
theorem d_X1_extend_134 : decode cX1_extend 134 = .ok (.iload 7, 2) := by decide +kernel
theorem d_X1_extend_136 : decode cX1_extend 136 = .ok (.invokestatic 67, 3) := by decide +kernel
theorem d_X1_extend_139 : decode cX1_extend 139 = .ok (.aload 5, 2) := by decide +kernel
theorem d_X1_extend_141 : decode cX1_extend 141 = .ok (.aload 4, 2) := by decide +kernel
theorem d_X1_extend_143 : decode cX1_extend 143 = .ok (.invokevirtual 31, 3) := by decide +kernel
theorem d_X1_extend_146 : decode cX1_extend 146 = .ok (.aload 5, 2) := by decide +kernel
theorem d_X1_extend_148 : decode cX1_extend 148 = .ok (.iload 7, 2) := by decide +kernel
theorem d_X1_extend_150 : decode cX1_extend 150 = .ok (.invokevirtual 71, 3) := by decide +kernel
theorem d_X1_extend_153 : decode cX1_extend 153 = .ok (.aload_n 0, 1) := by decide +kernel
theorem d_X1_extend_154 : decode cX1_extend 154 = .ok (.iload_n 1, 1) := by decide +kernel
theorem d_X1_extend_155 : decode cX1_extend 155 = .ok (.iconst 1, 1) := by decide +kernel
theorem d_X1_extend_156 : decode cX1_extend 156 = .ok (.iadd, 1) := by decide +kernel
theorem d_X1_extend_157 : decode cX1_extend 157 = .ok (.iload_n 2, 1) := by decide +kernel
theorem d_X1_extend_158 : decode cX1_extend 158 = .ok (.iconst 1, 1) := by decide +kernel
theorem d_X1_extend_159 : decode cX1_extend 159 = .ok (.iload 7, 2) := by decide +kernel
theorem d_X1_extend_161 : decode cX1_extend 161 = .ok (.ishl, 1) := by decide +kernel
theorem d_X1_extend_162 : decode cX1_extend 162 = .ok (.ior, 1) := by decide +kernel
theorem d_X1_extend_163 : decode cX1_extend 163 = .ok (.aload 5, 2) := by decide +kernel
theorem d_X1_extend_165 : decode cX1_extend 165 = .ok (.iload 7, 2) := by decide +kernel
theorem d_X1_extend_167 : decode cX1_extend 167 = .ok (.iconst 1, 1) := by decide +kernel
theorem d_X1_extend_168 : decode cX1_extend 168 = .ok (.invokevirtual 63, 3) := by decide +kernel
theorem d_X1_extend_171 : decode cX1_extend 171 = .ok (.ifCond .eq 9, 3) := by decide +kernel
theorem d_X1_extend_174 : decode cX1_extend 174 = .ok (.iload_n 3, 1) := by decide +kernel
theorem d_X1_extend_175 : decode cX1_extend 175 = .ok (.iconst 1, 1) := by decide +kernel
theorem d_X1_extend_176 : decode cX1_extend 176 = .ok (.iadd, 1) := by decide +kernel
theorem d_X1_extend_177 : decode cX1_extend 177 = .ok (.goto 4, 3) := by decide +kernel
theorem d_X1_extend_180 : decode cX1_extend 180 = .ok (.iload_n 3, 1) := by decide +kernel
theorem d_X1_extend_181 : decode cX1_extend 181 = .ok (.invokestatic 46, 3) := by decide +kernel
theorem d_X1_extend_184 : decode cX1_extend 184 = .ok (.iinc 7 1, 3) := by decide +kernel
theorem d_X1_extend_187 : decode cX1_extend 187 = .ok (.goto (-95), 3) := by decide +kernel
theorem d_X1_extend_190 : decode cX1_extend 190 = .ok (.return_, 1) := by decide +kernel
def t_X1_extend_0 : List (Nat × QO) := [(0, o_il 3 1), (1, o_al 0 2), (2, o_gf 1 3 5), (5, o_b (fun x y => x + y) 6), (6, o_il 1 7), (7, o_b (fun x y => x - y) 8), (8, o_al 0 9), (9, o_gf 1 4 12), (12, o_ic (fun x y => decide (y < x)) 16 15), (15, o_vr), (16, o_il 1 17), (17, o_al 0 18)]
theorem ts_X1_extend_0 (sx : QX) : ∀ q ∈ t_X1_extend_0, q_Snd sx RX1 cX1_extend 8 none q.1 q.2 := List.forall_mem_cons.mpr ⟨s_iload_n d_X1_extend_0 rfl, List.forall_mem_cons.mpr ⟨s_aload_n d_X1_extend_1 rfl, List.forall_mem_cons.mpr ⟨s_gf d_X1_extend_2 rfl (by decide) n_X1 in_X1 rfl k_1_194, List.forall_mem_cons.mpr ⟨s_iadd d_X1_extend_5, List.forall_mem_cons.mpr ⟨s_iload_n d_X1_extend_6 rfl, List.forall_mem_cons.mpr ⟨s_isub d_X1_extend_7, List.forall_mem_cons.mpr ⟨s_aload_n d_X1_extend_8 rfl, List.forall_mem_cons.mpr ⟨s_gf d_X1_extend_9 rfl (by decide) n_X1 in_X1 rfl k_1_196, List.forall_mem_cons.mpr ⟨s_ic_gt d_X1_extend_12 (by decide), List.forall_mem_cons.mpr ⟨s_vr d_X1_extend_15 rfl, List.forall_mem_cons.mpr ⟨s_iload_n d_X1_extend_16 rfl, List.forall_mem_cons.mpr ⟨s_aload_n d_X1_extend_17 rfl, fun _ h => absurd h List.not_mem_nil⟩⟩⟩⟩⟩⟩⟩⟩⟩⟩⟩⟩
def t_X1_extend_1 : List (Nat × QO) := [(18, o_gf 1 3 21), (21, o_ic (fun x y => decide (x < y)) 41 24), (24, o_al 0 25), (25, o_il 3 26), (26, o_pf 1 4 29), (29, o_al 0 30), (30, o_gf 1 1 33), (33, o_al 0 34), (34, o_gf 1 2 37), (37, o_cS 0 100 3 2 40), (40, o_vr), (41, o_al 0 42)]
theorem ts_X1_extend_1 (sx : QX) : ∀ q ∈ t_X1_extend_1, q_Snd sx RX1 cX1_extend 8 none q.1 q.2 := List.forall_mem_cons.mpr ⟨s_gf d_X1_extend_18 rfl (by decide) n_X1 in_X1 rfl k_1_194, List.forall_mem_cons.mpr ⟨s_ic_lt d_X1_extend_21 (by decide), List.forall_mem_cons.mpr ⟨s_aload_n d_X1_extend_24 rfl, List.forall_mem_cons.mpr ⟨s_iload_n d_X1_extend_25 rfl, List.forall_mem_cons.mpr ⟨s_pf tyX1 d_X1_extend_26 rfl (by decide) n_X1 in_X1 rfl k_1_196 tyX1_ok nmX1 rfl rfl, List.forall_mem_cons.mpr ⟨s_aload_n d_X1_extend_29 rfl, List.forall_mem_cons.mpr ⟨s_gf d_X1_extend_30 rfl (by decide) n_X1 in_X1 rfl k_1_191, List.forall_mem_cons.mpr ⟨s_aload_n d_X1_extend_33 rfl, List.forall_mem_cons.mpr ⟨s_gf d_X1_extend_34 rfl (by decide) n_X1 in_X1 rfl k_1_192, List.forall_mem_cons.mpr ⟨s_cN (host := "StoneApologies") rfl d_X1_extend_37 (List.mem_of_getElem? (i := 18) rfl) k_2_111 k_1_1 k_2_112 ⟨by decide, by decide⟩ (by decide +kernel) (by decide), List.forall_mem_cons.mpr ⟨s_vr d_X1_extend_40 rfl, List.forall_mem_cons.mpr ⟨s_aload_n d_X1_extend_41 rfl, fun _ h => absurd h List.not_mem_nil⟩⟩⟩⟩⟩⟩⟩⟩⟩⟩⟩⟩
def t_X1_extend_2 : List (Nat × QO) := [(42, o_gf 1 0 45), (45, o_il 1 46), (46, o_cS 2 101 2 2 49), (49, o_as 4 51), (51, o_al 0 52), (52, o_gf 1 0 55), (55, o_il 1 56), (56, o_k 1 57), (57, o_b (fun x y => x + y) 58), (58, o_cS 2 101 2 2 61), (61, o_as 5 63), (63, o_al 0 64)]
theorem ts_X1_extend_2 (sx : QX) : ∀ q ∈ t_X1_extend_2, q_Snd sx RX1 cX1_extend 8 none q.1 q.2 := List.forall_mem_cons.mpr ⟨s_gf d_X1_extend_42 rfl (by decide) n_X1 in_X1 rfl k_1_190, List.forall_mem_cons.mpr ⟨s_iload_n d_X1_extend_45 rfl, List.forall_mem_cons.mpr ⟨s_cN (host := "StoneApologies") rfl d_X1_extend_46 (List.mem_of_getElem? (i := 17) rfl) k_2_239 k_1_1 k_3_0 ⟨by decide, by decide⟩ (by decide +kernel) (by decide), List.forall_mem_cons.mpr ⟨s_astore d_X1_extend_49 (by decide), List.forall_mem_cons.mpr ⟨s_aload_n d_X1_extend_51 rfl, List.forall_mem_cons.mpr ⟨s_gf d_X1_extend_52 rfl (by decide) n_X1 in_X1 rfl k_1_190, List.forall_mem_cons.mpr ⟨s_iload_n d_X1_extend_55 rfl, List.forall_mem_cons.mpr ⟨s_iconst d_X1_extend_56 rfl, List.forall_mem_cons.mpr ⟨s_iadd d_X1_extend_57, List.forall_mem_cons.mpr ⟨s_cN (host := "StoneApologies") rfl d_X1_extend_58 (List.mem_of_getElem? (i := 17) rfl) k_2_239 k_1_1 k_3_0 ⟨by decide, by decide⟩ (by decide +kernel) (by decide), List.forall_mem_cons.mpr ⟨s_astore d_X1_extend_61 (by decide), List.forall_mem_cons.mpr ⟨s_aload_n d_X1_extend_63 rfl, fun _ h => absurd h List.not_mem_nil⟩⟩⟩⟩⟩⟩⟩⟩⟩⟩⟩⟩
def t_X1_extend_3 : List (Nat × QO) := [(64, o_gf 1 0 67), (67, o_k 0 68), (68, o_cS 2 101 2 2 71), (71, o_as 6 73), (73, o_al 4 75), (75, o_ifnull 88 78), (78, o_al 5 80), (80, o_ifnull 88 83), (83, o_al 6 85), (85, o_ifnull 88 89), (88, o_vr), (89, o_k 0 90)]
theorem ts_X1_extend_3 (sx : QX) : ∀ q ∈ t_X1_extend_3, q_Snd sx RX1 cX1_extend 8 none q.1 q.2 := List.forall_mem_cons.mpr ⟨s_gf d_X1_extend_64 rfl (by decide) n_X1 in_X1 rfl k_1_190, List.forall_mem_cons.mpr ⟨s_iconst d_X1_extend_67 rfl, List.forall_mem_cons.mpr ⟨s_cN (host := "StoneApologies") rfl d_X1_extend_68 (List.mem_of_getElem? (i := 17) rfl) k_2_239 k_1_1 k_3_0 ⟨by decide, by decide⟩ (by decide +kernel) (by decide), List.forall_mem_cons.mpr ⟨s_astore d_X1_extend_71 (by decide), List.forall_mem_cons.mpr ⟨s_aload d_X1_extend_73, List.forall_mem_cons.mpr ⟨s_ifnull d_X1_extend_75 (by decide), List.forall_mem_cons.mpr ⟨s_aload d_X1_extend_78, List.forall_mem_cons.mpr ⟨s_ifnull d_X1_extend_80 (by decide), List.forall_mem_cons.mpr ⟨s_aload d_X1_extend_83, List.forall_mem_cons.mpr ⟨s_ifnonnull d_X1_extend_85 (by decide), List.forall_mem_cons.mpr ⟨s_vr d_X1_extend_88 rfl, List.forall_mem_cons.mpr ⟨s_iconst d_X1_extend_89 rfl, fun _ h => absurd h List.not_mem_nil⟩⟩⟩⟩⟩⟩⟩⟩⟩⟩⟩⟩
def t_X1_extend_4 : List (Nat × QO) := [(90, o_is 7 92), (92, o_il 7 94), (94, o_al 4 96), (96, o_gf 3 0 99), (99, o_gf 0 0 102), (102, o_ic (fun x y => decide (y ≤ x)) 190 105), (105, o_il 2 106), (106, o_il 7 108), (108, o_b (fun x y => x >>> (y &&& 31)) 109), (109, o_k 1 110), (110, o_b (fun x y => x &&& y) 111), (111, o_k 1 112)]
theorem ts_X1_extend_4 (sx : QX) : ∀ q ∈ t_X1_extend_4, q_Snd sx RX1 cX1_extend 8 none q.1 q.2 := List.forall_mem_cons.mpr ⟨s_istore d_X1_extend_90 (by decide), List.forall_mem_cons.mpr ⟨s_iload d_X1_extend_92, List.forall_mem_cons.mpr ⟨s_aload d_X1_extend_94, List.forall_mem_cons.mpr ⟨s_gf d_X1_extend_96 rfl (by decide) n_X3 in_X3 rfl k_1_115, List.forall_mem_cons.mpr ⟨s_gf d_X1_extend_99 rfl (by decide) n_X0 in_X0 rfl k_1_51, List.forall_mem_cons.mpr ⟨s_ic_ge d_X1_extend_102 (by decide), List.forall_mem_cons.mpr ⟨s_iload_n d_X1_extend_105 rfl, List.forall_mem_cons.mpr ⟨s_iload d_X1_extend_106, List.forall_mem_cons.mpr ⟨s_ishr d_X1_extend_108, List.forall_mem_cons.mpr ⟨s_iconst d_X1_extend_109 rfl, List.forall_mem_cons.mpr ⟨s_iand d_X1_extend_110, List.forall_mem_cons.mpr ⟨s_iconst d_X1_extend_111 rfl, fun _ h => absurd h List.not_mem_nil⟩⟩⟩⟩⟩⟩⟩⟩⟩⟩⟩⟩
def t_X1_extend_5 : List (Nat × QO) := [(112, o_ic (fun x y => decide (x = y)) 184 115), (115, o_al 6 117), (117, o_il 7 119), (119, o_k 0 120), (120, o_cV 1 3 21 3 3 123), (123, o_if (fun x => decide (x ≠ 0)) 129 126), (126, o_goto 184), (129, o_al 0 130), (130, o_gf 1 1 133), (133, o_il 1 134), (134, o_il 7 136), (136, o_cS 0 98 3 3 139)]
theorem ts_X1_extend_5 (sx : QX) : ∀ q ∈ t_X1_extend_5, q_Snd sx RX1 cX1_extend 8 none q.1 q.2 := List.forall_mem_cons.mpr ⟨s_ic_eq d_X1_extend_112 (by decide), List.forall_mem_cons.mpr ⟨s_aload d_X1_extend_115, List.forall_mem_cons.mpr ⟨s_iload d_X1_extend_117, List.forall_mem_cons.mpr ⟨s_iconst d_X1_extend_119 rfl, List.forall_mem_cons.mpr ⟨s_cV (T := TX3) (N := 8) rfl d_X1_extend_120 rfl k_3_128 k_3_29 k_3_30 k_1_4 k_3_31 ⟨by decide, by decide⟩ (by decide +kernel) (by decide), List.forall_mem_cons.mpr ⟨s_if_ne d_X1_extend_123 (by decide), List.forall_mem_cons.mpr ⟨s_goto d_X1_extend_126 (by decide), List.forall_mem_cons.mpr ⟨s_aload_n d_X1_extend_129 rfl, List.forall_mem_cons.mpr ⟨s_gf d_X1_extend_130 rfl (by decide) n_X1 in_X1 rfl k_1_191, List.forall_mem_cons.mpr ⟨s_iload_n d_X1_extend_133 rfl, List.forall_mem_cons.mpr ⟨s_iload d_X1_extend_134, List.forall_mem_cons.mpr ⟨s_cN (host := "StoneApologies") rfl d_X1_extend_136 (List.mem_of_getElem? (i := 19) rfl) k_2_23 k_1_1 k_2_24 ⟨by decide, by decide⟩ (by decide +kernel) (by decide), fun _ h => absurd h List.not_mem_nil⟩⟩⟩⟩⟩⟩⟩⟩⟩⟩⟩⟩
def t_X1_extend_6 : List (Nat × QO) := [(139, o_al 5 141), (141, o_al 4 143), (143, o_cV 0 3 20 2 2 146), (146, o_al 5 148), (148, o_il 7 150), (150, o_cV 0 3 39 4 2 153), (153, o_al 0 154), (154, o_il 1 155), (155, o_k 1 156), (156, o_b (fun x y => x + y) 157), (157, o_il 2 158), (158, o_k 1 159)]
theorem ts_X1_extend_6 (sx : QX) : ∀ q ∈ t_X1_extend_6, q_Snd sx RX1 cX1_extend 8 none q.1 q.2 := List.forall_mem_cons.mpr ⟨s_aload d_X1_extend_139, List.forall_mem_cons.mpr ⟨s_aload d_X1_extend_141, List.forall_mem_cons.mpr ⟨s_cV (T := TX3) (N := 8) rfl d_X1_extend_143 rfl k_3_119 k_3_2 k_3_3 k_1_4 k_3_4 ⟨by decide, by decide⟩ (by decide +kernel) (by decide), List.forall_mem_cons.mpr ⟨s_aload d_X1_extend_146, List.forall_mem_cons.mpr ⟨s_iload d_X1_extend_148, List.forall_mem_cons.mpr ⟨s_cV (T := TX3) (N := 8) rfl d_X1_extend_150 rfl k_3_130 k_3_131 k_3_132 k_1_4 k_3_133 ⟨by decide, by decide⟩ (by decide +kernel) (by decide), List.forall_mem_cons.mpr ⟨s_aload_n d_X1_extend_153 rfl, List.forall_mem_cons.mpr ⟨s_iload_n d_X1_extend_154 rfl, List.forall_mem_cons.mpr ⟨s_iconst d_X1_extend_155 rfl, List.forall_mem_cons.mpr ⟨s_iadd d_X1_extend_156, List.forall_mem_cons.mpr ⟨s_iload_n d_X1_extend_157 rfl, List.forall_mem_cons.mpr ⟨s_iconst d_X1_extend_158 rfl, fun _ h => absurd h List.not_mem_nil⟩⟩⟩⟩⟩⟩⟩⟩⟩⟩⟩⟩
def t_X1_extend_7 : List (Nat × QO) := [(159, o_il 7 161), (161, o_b (fun x y => x <<< (y &&& 31)) 162), (162, o_b (fun x y => x ||| y) 163), (163, o_al 5 165), (165, o_il 7 167), (167, o_k 1 168), (168, o_cV 1 3 21 3 3 171), (171, o_if (fun x => decide (x = 0)) 180 174), (174, o_il 3 175), (175, o_k 1 176), (176, o_b (fun x y => x + y) 177), (177, o_goto 181)]
theorem ts_X1_extend_7 (sx : QX) : ∀ q ∈ t_X1_extend_7, q_Snd sx RX1 cX1_extend 8 none q.1 q.2 := List.forall_mem_cons.mpr ⟨s_iload d_X1_extend_159, List.forall_mem_cons.mpr ⟨s_ishl d_X1_extend_161, List.forall_mem_cons.mpr ⟨s_ior d_X1_extend_162, List.forall_mem_cons.mpr ⟨s_aload d_X1_extend_163, List.forall_mem_cons.mpr ⟨s_iload d_X1_extend_165, List.forall_mem_cons.mpr ⟨s_iconst d_X1_extend_167 rfl, List.forall_mem_cons.mpr ⟨s_cV (T := TX3) (N := 8) rfl d_X1_extend_168 rfl k_3_128 k_3_29 k_3_30 k_1_4 k_3_31 ⟨by decide, by decide⟩ (by decide +kernel) (by decide), List.forall_mem_cons.mpr ⟨s_if_eq d_X1_extend_171 (by decide), List.forall_mem_cons.mpr ⟨s_iload_n d_X1_extend_174 rfl, List.forall_mem_cons.mpr ⟨s_iconst d_X1_extend_175 rfl, List.forall_mem_cons.mpr ⟨s_iadd d_X1_extend_176, List.forall_mem_cons.mpr ⟨s_goto d_X1_extend_177 (by decide), fun _ h => absurd h List.not_mem_nil⟩⟩⟩⟩⟩⟩⟩⟩⟩⟩⟩⟩
def t_X1_extend_8 : List (Nat × QO) := [(180, o_il 3 181), (181, o_cS 0 15 8 4 184), (184, o_inc 7 1 187), (187, o_goto 92), (190, o_vr)]
theorem ts_X1_extend_8 (sx : QX) : ∀ q ∈ t_X1_extend_8, q_Snd sx RX1 cX1_extend 8 none q.1 q.2 := List.forall_mem_cons.mpr ⟨s_iload_n d_X1_extend_180 rfl, List.forall_mem_cons.mpr ⟨s_cS rfl d_X1_extend_181 k_3_124 k_3_125 k_1_7 k_3_126 ⟨by decide, by decide⟩ (by decide +kernel) (by decide), List.forall_mem_cons.mpr ⟨s_iinc d_X1_extend_184 rfl (by decide), List.forall_mem_cons.mpr ⟨s_goto d_X1_extend_187 (by decide), List.forall_mem_cons.mpr ⟨s_vr d_X1_extend_190 rfl, fun _ h => absurd h List.not_mem_nil⟩⟩⟩⟩⟩
def t_X1_extend (pc : Nat) : Option QO := cond (Nat.ble pc 89) (cond (Nat.ble pc 41) (cond (Nat.ble pc 17) (q_look (t_X1_extend_0) pc) (q_look (t_X1_extend_1) pc)) (cond (Nat.ble pc 63) (q_look (t_X1_extend_2) pc) (q_look (t_X1_extend_3) pc))) (cond (Nat.ble pc 136) (cond (Nat.ble pc 111) (q_look (t_X1_extend_4) pc) (q_look (t_X1_extend_5) pc)) (cond (Nat.ble pc 158) (q_look (t_X1_extend_6) pc) (cond (Nat.ble pc 177) (q_look (t_X1_extend_7) pc) (q_look (t_X1_extend_8) pc))))
theorem ts_X1_extend (sx : QX) (pc : Nat) : ∀ o, t_X1_extend pc = some o → q_Snd sx RX1 cX1_extend 8 none pc o := by
  unfold t_X1_extend
  exact q_cb (q_cb (q_cb (q_look_all (ts_X1_extend_0 sx)) (q_look_all (ts_X1_extend_1 sx))) (q_cb (q_look_all (ts_X1_extend_2 sx)) (q_look_all (ts_X1_extend_3 sx)))) (q_cb (q_cb (q_look_all (ts_X1_extend_4 sx)) (q_look_all (ts_X1_extend_5 sx))) (q_cb (q_look_all (ts_X1_extend_6 sx)) (q_cb (q_look_all (ts_X1_extend_7 sx)) (q_look_all (ts_X1_extend_8 sx)))))
theorem d_X2_clear_0 : decode cX2_clear 0 = .ok (.aload_n 0, 1) := by decide +kernel
theorem d_X2_clear_1 : decode cX2_clear 1 = .ok (.iconst 0, 1) := by decide +kernel
theorem d_X2_clear_2 : decode cX2_clear 2 = .ok (.putfield 18, 3) := by decide +kernel
theorem d_X2_clear_5 : decode cX2_clear 5 = .ok (.return_, 1) := by decide +kernel
def t_X2_clear_0 : List (Nat × QO) := [(0, o_al 0 1), (1, o_k 0 2), (2, o_pf 2 2 5), (5, o_vr)]
theorem ts_X2_clear_0 (sx : QX) : ∀ q ∈ t_X2_clear_0, q_Snd sx RX2 cX2_clear 1 none q.1 q.2 := List.forall_mem_cons.mpr ⟨s_aload_n d_X2_clear_0 rfl, List.forall_mem_cons.mpr ⟨s_iconst d_X2_clear_1 rfl, List.forall_mem_cons.mpr ⟨s_pf tyX2 d_X2_clear_2 rfl (by decide) n_X2 in_X2 rfl k_1_159 tyX2_ok nmX2 rfl rfl, List.forall_mem_cons.mpr ⟨s_vr d_X2_clear_5 rfl, fun _ h => absurd h List.not_mem_nil⟩⟩⟩⟩
def t_X2_clear (pc : Nat) : Option QO := q_look (t_X2_clear_0) pc
theorem ts_X2_clear (sx : QX) (pc : Nat) : ∀ o, t_X2_clear pc = some o → q_Snd sx RX2 cX2_clear 1 none pc o := by
  unfold t_X2_clear
  exact q_look_all (ts_X2_clear_0 sx)
theorem d_X2_push_0 : decode cX2_push 0 = .ok (.aload_n 0, 1) := by decide +kernel
theorem d_X2_push_1 : decode cX2_push 1 = .ok (.getfield 9, 3) := by decide +kernel
theorem d_X2_push_4 : decode cX2_push 4 = .ok (.aload_n 0, 1) := by decide +kernel
theorem d_X2_push_5 : decode cX2_push 5 = .ok (.getfield 22, 3) := by decide +kernel
theorem d_X2_push_8 : decode cX2_push 8 = .ok (.invokestatic 25, 3) := by decide +kernel
theorem d_X2_push_11 : decode cX2_push 11 = .ok (.astore_n 2, 1) := by decide +kernel
theorem d_X2_push_12 : decode cX2_push 12 = .ok (.aload_n 2, 1) := by decide +kernel
theorem d_X2_push_13 : decode cX2_push 13 = .ok (.ifnonnull 4, 3) := by decide +kernel
theorem d_X2_push_16 : decode cX2_push 16 = .ok (.return_, 1) := by decide +kernel
theorem d_X2_push_17 : decode cX2_push 17 = .ok (.aload_n 2, 1) := by decide +kernel
theorem d_X2_push_18 : decode cX2_push 18 = .ok (.aload_n 1, 1) := by decide +kernel
theorem d_X2_push_19 : decode cX2_push 19 = .ok (.invokevirtual 31, 3) := by decide +kernel
theorem d_X2_push_22 : decode cX2_push 22 = .ok (.aload_n 0, 1) := by decide +kernel
theorem d_X2_push_23 : decode cX2_push 23 = .ok (.aload_n 0, 1) := by decide +kernel
theorem d_X2_push_24 : decode cX2_push 24 = .ok (.getfield 22, 3) := by decide +kernel
theorem d_X2_push_27 : decode cX2_push 27 = .ok (.iconst 1, 1) := by decide +kernel
theorem d_X2_push_28 : decode cX2_push 28 = .ok (.iadd, 1) := by decide +kernel
theorem d_X2_push_29 : decode cX2_push 29 = .ok (.aload_n 0, 1) := by decide +kernel
theorem d_X2_push_30 : decode cX2_push 30 = .ok (.getfield 9, 3) := by decide +kernel
theorem d_X2_push_33 : decode cX2_push 33 = .ok (.arraylength, 1) := by decide +kernel
theorem d_X2_push_34 : decode cX2_push 34 = .ok (.if_icmp .ge 12, 3) := by decide +kernel
theorem d_X2_push_37 : decode cX2_push 37 = .ok (.aload_n 0, 1) := by decide +kernel
theorem d_X2_push_38 : decode cX2_push 38 = .ok (.getfield 22, 3) := by decide +kernel
theorem d_X2_push_41 : decode cX2_push 41 = .ok (.iconst 1, 1) := by decide +kernel
theorem d_X2_push_42 : decode cX2_push 42 = .ok (.iadd, 1) := by decide +kernel
theorem d_X2_push_43 : decode cX2_push 43 = .ok (.goto 4, 3) := by decide +kernel
theorem d_X2_push_46 : decode cX2_push 46 = .ok (.iconst 0, 1) := by decide +kernel
theorem d_X2_push_47 : decode cX2_push 47 = .ok (.putfield 22, 3) := by decide +kernel
theorem d_X2_push_50 : decode cX2_push 50 = .ok (.aload_n 0, 1) := by decide +kernel
theorem d_X2_push_51 : decode cX2_push 51 = .ok (.getfield 18, 3) := by decide +kernel
theorem d_X2_push_54 : decode cX2_push 54 = .ok (.aload_n 0, 1) := by decide +kernel
theorem d_X2_push_55 : decode cX2_push 55 = .ok (.getfield 9, 3) := by decide +kernel
theorem d_X2_push_58 : decode cX2_push 58 = .ok (.arraylength, 1) := by decide +kernel
theorem d_X2_push_59 : decode cX2_push 59 = .ok (.if_icmp .ge 13, 3) := by decide +kernel
theorem d_X2_push_62 : decode cX2_push 62 = .ok (.aload_n 0, 1) := by decide +kernel
theorem d_X2_push_63 : decode cX2_push 63 = .ok (.dup, 1) := by decide +kernel
theorem d_X2_push_64 : decode cX2_push 64 = .ok (.getfield 18, 3) := by decide +kernel
theorem d_X2_push_67 : decode cX2_push 67 = .ok (.iconst 1, 1) := by decide +kernel
theorem d_X2_push_68 : decode cX2_push 68 = .ok (.iadd, 1) := by decide +kernel
theorem d_X2_push_69 : decode cX2_push 69 = .ok (.putfield 18, 3) := by decide +kernel
theorem d_X2_push_72 : decode cX2_push 72 = .ok (.return_, 1) := by decide +kernel
def t_X2_push_0 : List (Nat × QO) := [(0, o_al 0 1), (1, o_gf 2 0 4), (4, o_al 0 5), (5, o_gf 2 1 8), (8, o_cS 2 101 2 2 11), (11, o_as 2 12), (12, o_al 2 13), (13, o_ifnull 16 17), (16, o_vr), (17, o_al 2 18), (18, o_al 1 19), (19, o_cV 0 3 20 2 2 22)]
theorem ts_X2_push_0 (sx : QX) : ∀ q ∈ t_X2_push_0, q_Snd sx RX2 cX2_push 3 none q.1 q.2 := List.forall_mem_cons.mpr ⟨s_aload_n d_X2_push_0 rfl, List.forall_mem_cons.mpr ⟨s_gf d_X2_push_1 rfl (by decide) n_X2 in_X2 rfl k_1_157, List.forall_mem_cons.mpr ⟨s_aload_n d_X2_push_4 rfl, List.forall_mem_cons.mpr ⟨s_gf d_X2_push_5 rfl (by decide) n_X2 in_X2 rfl k_1_158, List.forall_mem_cons.mpr ⟨s_cN (host := "StoneApologies") rfl d_X2_push_8 (List.mem_of_getElem? (i := 11) rfl) k_2_239 k_1_1 k_3_0 ⟨by decide, by decide⟩ (by decide +kernel) (by decide), List.forall_mem_cons.mpr ⟨s_astore_n d_X2_push_11 rfl (by decide), List.forall_mem_cons.mpr ⟨s_aload_n d_X2_push_12 rfl, List.forall_mem_cons.mpr ⟨s_ifnonnull d_X2_push_13 (by decide), List.forall_mem_cons.mpr ⟨s_vr d_X2_push_16 rfl, List.forall_mem_cons.mpr ⟨s_aload_n d_X2_push_17 rfl, List.forall_mem_cons.mpr ⟨s_aload_n d_X2_push_18 rfl, List.forall_mem_cons.mpr ⟨s_cV (T := TX3) (N := 8) rfl d_X2_push_19 rfl k_3_1 k_3_2 k_3_3 k_1_4 k_3_4 ⟨by decide, by decide⟩ (by decide +kernel) (by decide), fun _ h => absurd h List.not_mem_nil⟩⟩⟩⟩⟩⟩⟩⟩⟩⟩⟩⟩
def t_X2_push_1 : List (Nat × QO) := [(22, o_al 0 23), (23, o_al 0 24), (24, o_gf 2 1 27), (27, o_k 1 28), (28, o_b (fun x y => x + y) 29), (29, o_al 0 30), (30, o_gf 2 0 33), (33, o_len 34), (34, o_ic (fun x y => decide (y ≤ x)) 46 37), (37, o_al 0 38), (38, o_gf 2 1 41), (41, o_k 1 42)]
theorem ts_X2_push_1 (sx : QX) : ∀ q ∈ t_X2_push_1, q_Snd sx RX2 cX2_push 3 none q.1 q.2 := List.forall_mem_cons.mpr ⟨s_aload_n d_X2_push_22 rfl, List.forall_mem_cons.mpr ⟨s_aload_n d_X2_push_23 rfl, List.forall_mem_cons.mpr ⟨s_gf d_X2_push_24 rfl (by decide) n_X2 in_X2 rfl k_1_158, List.forall_mem_cons.mpr ⟨s_iconst d_X2_push_27 rfl, List.forall_mem_cons.mpr ⟨s_iadd d_X2_push_28, List.forall_mem_cons.mpr ⟨s_aload_n d_X2_push_29 rfl, List.forall_mem_cons.mpr ⟨s_gf d_X2_push_30 rfl (by decide) n_X2 in_X2 rfl k_1_157, List.forall_mem_cons.mpr ⟨s_len d_X2_push_33, List.forall_mem_cons.mpr ⟨s_ic_ge d_X2_push_34 (by decide), List.forall_mem_cons.mpr ⟨s_aload_n d_X2_push_37 rfl, List.forall_mem_cons.mpr ⟨s_gf d_X2_push_38 rfl (by decide) n_X2 in_X2 rfl k_1_158, List.forall_mem_cons.mpr ⟨s_iconst d_X2_push_41 rfl, fun _ h => absurd h List.not_mem_nil⟩⟩⟩⟩⟩⟩⟩⟩⟩⟩⟩⟩
def t_X2_push_2 : List (Nat × QO) := [(42, o_b (fun x y => x + y) 43), (43, o_goto 47), (46, o_k 0 47), (47, o_pf 2 1 50), (50, o_al 0 51), (51, o_gf 2 2 54), (54, o_al 0 55), (55, o_gf 2 0 58), (58, o_len 59), (59, o_ic (fun x y => decide (y ≤ x)) 72 62), (62, o_al 0 63), (63, o_dup 64)]
theorem ts_X2_push_2 (sx : QX) : ∀ q ∈ t_X2_push_2, q_Snd sx RX2 cX2_push 3 none q.1 q.2 := List.forall_mem_cons.mpr ⟨s_iadd d_X2_push_42, List.forall_mem_cons.mpr ⟨s_goto d_X2_push_43 (by decide), List.forall_mem_cons.mpr ⟨s_iconst d_X2_push_46 rfl, List.forall_mem_cons.mpr ⟨s_pf tyX2 d_X2_push_47 rfl (by decide) n_X2 in_X2 rfl k_1_158 tyX2_ok nmX2 rfl rfl, List.forall_mem_cons.mpr ⟨s_aload_n d_X2_push_50 rfl, List.forall_mem_cons.mpr ⟨s_gf d_X2_push_51 rfl (by decide) n_X2 in_X2 rfl k_1_159, List.forall_mem_cons.mpr ⟨s_aload_n d_X2_push_54 rfl, List.forall_mem_cons.mpr ⟨s_gf d_X2_push_55 rfl (by decide) n_X2 in_X2 rfl k_1_157, List.forall_mem_cons.mpr ⟨s_len d_X2_push_58, List.forall_mem_cons.mpr ⟨s_ic_ge d_X2_push_59 (by decide), List.forall_mem_cons.mpr ⟨s_aload_n d_X2_push_62 rfl, List.forall_mem_cons.mpr ⟨s_dup d_X2_push_63, fun _ h => absurd h List.not_mem_nil⟩⟩⟩⟩⟩⟩⟩⟩⟩⟩⟩⟩
def t_X2_push_3 : List (Nat × QO) := [(64, o_gf 2 2 67), (67, o_k 1 68), (68, o_b (fun x y => x + y) 69), (69, o_pf 2 2 72), (72, o_vr)]
theorem ts_X2_push_3 (sx : QX) : ∀ q ∈ t_X2_push_3, q_Snd sx RX2 cX2_push 3 none q.1 q.2 := List.forall_mem_cons.mpr ⟨s_gf d_X2_push_64 rfl (by decide) n_X2 in_X2 rfl k_1_159, List.forall_mem_cons.mpr ⟨s_iconst d_X2_push_67 rfl, List.forall_mem_cons.mpr ⟨s_iadd d_X2_push_68, List.forall_mem_cons.mpr ⟨s_pf tyX2 d_X2_push_69 rfl (by decide) n_X2 in_X2 rfl k_1_159 tyX2_ok nmX2 rfl rfl, List.forall_mem_cons.mpr ⟨s_vr d_X2_push_72 rfl, fun _ h => absurd h List.not_mem_nil⟩⟩⟩⟩⟩
def t_X2_push (pc : Nat) : Option QO := cond (Nat.ble pc 41) (cond (Nat.ble pc 19) (q_look (t_X2_push_0) pc) (q_look (t_X2_push_1) pc)) (cond (Nat.ble pc 63) (q_look (t_X2_push_2) pc) (q_look (t_X2_push_3) pc))
theorem ts_X2_push (sx : QX) (pc : Nat) : ∀ o, t_X2_push pc = some o → q_Snd sx RX2 cX2_push 3 none pc o := by
  unfold t_X2_push
  exact q_cb (q_cb (q_look_all (ts_X2_push_0 sx)) (q_look_all (ts_X2_push_1 sx))) (q_cb (q_look_all (ts_X2_push_2 sx)) (q_look_all (ts_X2_push_3 sx)))
theorem d_X2_pop_0 : decode cX2_pop 0 = .ok (.aload_n 0, 1) := by decide +kernel
theorem d_X2_pop_1 : decode cX2_pop 1 = .ok (.getfield 18, 3) := by decide +kernel
theorem d_X2_pop_4 : decode cX2_pop 4 = .ok (.iconst 1, 1) := by decide +kernel
theorem d_X2_pop_5 : decode cX2_pop 5 = .ok (.if_icmp .ge 5, 3) := by decide +kernel
theorem d_X2_pop_8 : decode cX2_pop 8 = .ok (.iconst 0, 1) := by decide +kernel
theorem d_X2_pop_9 : decode cX2_pop 9 = .ok (.ireturn, 1) := by decide +kernel
theorem d_X2_pop_10 : decode cX2_pop 10 = .ok (.aload_n 0, 1) := by decide +kernel
theorem d_X2_pop_11 : decode cX2_pop 11 = .ok (.getfield 22, 3) := by decide +kernel
theorem d_X2_pop_14 : decode cX2_pop 14 = .ok (.ifCond .le 12, 3) := by decide +kernel
theorem d_X2_pop_17 : decode cX2_pop 17 = .ok (.aload_n 0, 1) := by decide +kernel
theorem d_X2_pop_18 : decode cX2_pop 18 = .ok (.getfield 22, 3) := by decide +kernel
theorem d_X2_pop_21 : decode cX2_pop 21 = .ok (.iconst 1, 1) := by decide +kernel
theorem d_X2_pop_22 : decode cX2_pop 22 = .ok (.isub, 1) := by decide +kernel
theorem d_X2_pop_23 : decode cX2_pop 23 = .ok (.goto 10, 3) := by decide +kernel
theorem d_X2_pop_26 : decode cX2_pop 26 = .ok (.aload_n 0, 1) := by decide +kernel
theorem d_X2_pop_27 : decode cX2_pop 27 = .ok (.getfield 9, 3) := by decide +kernel
theorem d_X2_pop_30 : decode cX2_pop 30 = .ok (.arraylength, 1) := by decide +kernel
theorem d_X2_pop_31 : decode cX2_pop 31 = .ok (.iconst 1, 1) := by decide +kernel
theorem d_X2_pop_32 : decode cX2_pop 32 = .ok (.isub, 1) := by decide +kernel
theorem d_X2_pop_33 : decode cX2_pop 33 = .ok (.istore_n 2, 1) := by decide +kernel
theorem d_X2_pop_34 : decode cX2_pop 34 = .ok (.aload_n 0, 1) := by decide +kernel
theorem d_X2_pop_35 : decode cX2_pop 35 = .ok (.getfield 9, 3) := by decide +kernel
theorem d_X2_pop_38 : decode cX2_pop 38 = .ok (.iload_n 2, 1) := by decide +kernel
theorem d_X2_pop_39 : decode cX2_pop 39 = .ok (.invokestatic 25, 3) := by decide +kernel
theorem d_X2_pop_42 : decode cX2_pop 42 = .ok (.astore_n 3, 1) := by decide +kernel
theorem d_X2_pop_43 : decode cX2_pop 43 = .ok (.aload_n 3, 1) := by decide +kernel
theorem d_X2_pop_44 : decode cX2_pop 44 = .ok (.ifnonnull 5, 3) := by decide +kernel
theorem d_X2_pop_47 : decode cX2_pop 47 = .ok (.iconst 0, 1) := by decide +kernel
theorem d_X2_pop_48 : decode cX2_pop 48 = .ok (.ireturn, 1) := by decide +kernel
theorem d_X2_pop_49 : decode cX2_pop 49 = .ok (.aload_n 1, 1) := by decide +kernel
theorem d_X2_pop_50 : decode cX2_pop 50 = .ok (.aload_n 3, 1) := by decide +kernel
theorem d_X2_pop_51 : decode cX2_pop 51 = .ok (.invokevirtual 31, 3) := by decide +kernel
theorem d_X2_pop_54 : decode cX2_pop 54 = .ok (.aload_n 0, 1) := by decide +kernel
theorem d_X2_pop_55 : decode cX2_pop 55 = .ok (.iload_n 2, 1) := by decide +kernel
theorem d_X2_pop_56 : decode cX2_pop 56 = .ok (.putfield 22, 3) := by decide +kernel
theorem d_X2_pop_59 : decode cX2_pop 59 = .ok (.aload_n 0, 1) := by decide +kernel
theorem d_X2_pop_60 : decode cX2_pop 60 = .ok (.dup, 1) := by decide +kernel
theorem d_X2_pop_61 : decode cX2_pop 61 = .ok (.getfield 18, 3) := by decide +kernel
theorem d_X2_pop_64 : decode cX2_pop 64 = .ok (.iconst 1, 1) := by decide +kernel
theorem d_X2_pop_65 : decode cX2_pop 65 = .ok (.isub, 1) := by decide +kernel
theorem d_X2_pop_66 : decode cX2_pop 66 = .ok (.putfield 18, 3) := by decide +kernel
theorem d_X2_pop_69 : decode cX2_pop 69 = .ok (.iconst 1, 1) := by decide +kernel
theorem d_X2_pop_70 : decode cX2_pop 70 = .ok (.ireturn, 1) := by decide +kernel
def t_X2_pop_0 : List (Nat × QO) := [(0, o_al 0 1), (1, o_gf 2 2 4), (4, o_k 1 5), (5, o_ic (fun x y => decide (y ≤ x)) 10 8), (8, o_k 0 9), (9, o_ir true), (10, o_al 0 11), (11, o_gf 2 1 14), (14, o_if (fun x => decide (x ≤ 0)) 26 17), (17, o_al 0 18), (18, o_gf 2 1 21), (21, o_k 1 22)]
theorem ts_X2_pop_0 (sx : QX) : ∀ q ∈ t_X2_pop_0, q_Snd sx RX2 cX2_pop 4 (some .boolean) q.1 q.2 := List.forall_mem_cons.mpr ⟨s_aload_n d_X2_pop_0 rfl, List.forall_mem_cons.mpr ⟨s_gf d_X2_pop_1 rfl (by decide) n_X2 in_X2 rfl k_1_159, List.forall_mem_cons.mpr ⟨s_iconst d_X2_pop_4 rfl, List.forall_mem_cons.mpr ⟨s_ic_ge d_X2_pop_5 (by decide), List.forall_mem_cons.mpr ⟨s_iconst d_X2_pop_8 rfl, List.forall_mem_cons.mpr ⟨s_zr d_X2_pop_9 rfl, List.forall_mem_cons.mpr ⟨s_aload_n d_X2_pop_10 rfl, List.forall_mem_cons.mpr ⟨s_gf d_X2_pop_11 rfl (by decide) n_X2 in_X2 rfl k_1_158, List.forall_mem_cons.mpr ⟨s_if_le d_X2_pop_14 (by decide), List.forall_mem_cons.mpr ⟨s_aload_n d_X2_pop_17 rfl, List.forall_mem_cons.mpr ⟨s_gf d_X2_pop_18 rfl (by decide) n_X2 in_X2 rfl k_1_158, List.forall_mem_cons.mpr ⟨s_iconst d_X2_pop_21 rfl, fun _ h => absurd h List.not_mem_nil⟩⟩⟩⟩⟩⟩⟩⟩⟩⟩⟩⟩
def t_X2_pop_1 : List (Nat × QO) := [(22, o_b (fun x y => x - y) 23), (23, o_goto 33), (26, o_al 0 27), (27, o_gf 2 0 30), (30, o_len 31), (31, o_k 1 32), (32, o_b (fun x y => x - y) 33), (33, o_is 2 34), (34, o_al 0 35), (35, o_gf 2 0 38), (38, o_il 2 39), (39, o_cS 2 101 2 2 42)]
theorem ts_X2_pop_1 (sx : QX) : ∀ q ∈ t_X2_pop_1, q_Snd sx RX2 cX2_pop 4 (some .boolean) q.1 q.2 := List.forall_mem_cons.mpr ⟨s_isub d_X2_pop_22, List.forall_mem_cons.mpr ⟨s_goto d_X2_pop_23 (by decide), List.forall_mem_cons.mpr ⟨s_aload_n d_X2_pop_26 rfl, List.forall_mem_cons.mpr ⟨s_gf d_X2_pop_27 rfl (by decide) n_X2 in_X2 rfl k_1_157, List.forall_mem_cons.mpr ⟨s_len d_X2_pop_30, List.forall_mem_cons.mpr ⟨s_iconst d_X2_pop_31 rfl, List.forall_mem_cons.mpr ⟨s_isub d_X2_pop_32, List.forall_mem_cons.mpr ⟨s_istore_n d_X2_pop_33 rfl (by decide), List.forall_mem_cons.mpr ⟨s_aload_n d_X2_pop_34 rfl, List.forall_mem_cons.mpr ⟨s_gf d_X2_pop_35 rfl (by decide) n_X2 in_X2 rfl k_1_157, List.forall_mem_cons.mpr ⟨s_iload_n d_X2_pop_38 rfl, List.forall_mem_cons.mpr ⟨s_cN (host := "StoneApologies") rfl d_X2_pop_39 (List.mem_of_getElem? (i := 11) rfl) k_2_239 k_1_1 k_3_0 ⟨by decide, by decide⟩ (by decide +kernel) (by decide), fun _ h => absurd h List.not_mem_nil⟩⟩⟩⟩⟩⟩⟩⟩⟩⟩⟩⟩
def t_X2_pop_2 : List (Nat × QO) := [(42, o_as 3 43), (43, o_al 3 44), (44, o_ifnull 47 49), (47, o_k 0 48), (48, o_ir true), (49, o_al 1 50), (50, o_al 3 51), (51, o_cV 0 3 20 2 2 54), (54, o_al 0 55), (55, o_il 2 56), (56, o_pf 2 1 59), (59, o_al 0 60)]
theorem ts_X2_pop_2 (sx : QX) : ∀ q ∈ t_X2_pop_2, q_Snd sx RX2 cX2_pop 4 (some .boolean) q.1 q.2 := List.forall_mem_cons.mpr ⟨s_astore_n d_X2_pop_42 rfl (by decide), List.forall_mem_cons.mpr ⟨s_aload_n d_X2_pop_43 rfl, List.forall_mem_cons.mpr ⟨s_ifnonnull d_X2_pop_44 (by decide), List.forall_mem_cons.mpr ⟨s_iconst d_X2_pop_47 rfl, List.forall_mem_cons.mpr ⟨s_zr d_X2_pop_48 rfl, List.forall_mem_cons.mpr ⟨s_aload_n d_X2_pop_49 rfl, List.forall_mem_cons.mpr ⟨s_aload_n d_X2_pop_50 rfl, List.forall_mem_cons.mpr ⟨s_cV (T := TX3) (N := 8) rfl d_X2_pop_51 rfl k_3_1 k_3_2 k_3_3 k_1_4 k_3_4 ⟨by decide, by decide⟩ (by decide +kernel) (by decide), List.forall_mem_cons.mpr ⟨s_aload_n d_X2_pop_54 rfl, List.forall_mem_cons.mpr ⟨s_iload_n d_X2_pop_55 rfl, List.forall_mem_cons.mpr ⟨s_pf tyX2 d_X2_pop_56 rfl (by decide) n_X2 in_X2 rfl k_1_158 tyX2_ok nmX2 rfl rfl, List.forall_mem_cons.mpr ⟨s_aload_n d_X2_pop_59 rfl, fun _ h => absurd h List.not_mem_nil⟩⟩⟩⟩⟩⟩⟩⟩⟩⟩⟩⟩
def t_X2_pop_3 : List (Nat × QO) := [(60, o_dup 61), (61, o_gf 2 2 64), (64, o_k 1 65), (65, o_b (fun x y => x - y) 66), (66, o_pf 2 2 69), (69, o_k 1 70), (70, o_ir true)]
theorem ts_X2_pop_3 (sx : QX) : ∀ q ∈ t_X2_pop_3, q_Snd sx RX2 cX2_pop 4 (some .boolean) q.1 q.2 := List.forall_mem_cons.mpr ⟨s_dup d_X2_pop_60, List.forall_mem_cons.mpr ⟨s_gf d_X2_pop_61 rfl (by decide) n_X2 in_X2 rfl k_1_159, List.forall_mem_cons.mpr ⟨s_iconst d_X2_pop_64 rfl, List.forall_mem_cons.mpr ⟨s_isub d_X2_pop_65, List.forall_mem_cons.mpr ⟨s_pf tyX2 d_X2_pop_66 rfl (by decide) n_X2 in_X2 rfl k_1_159 tyX2_ok nmX2 rfl rfl, List.forall_mem_cons.mpr ⟨s_iconst d_X2_pop_69 rfl, List.forall_mem_cons.mpr ⟨s_zr d_X2_pop_70 rfl, fun _ h => absurd h List.not_mem_nil⟩⟩⟩⟩⟩⟩⟩
def t_X2_pop (pc : Nat) : Option QO := cond (Nat.ble pc 39) (cond (Nat.ble pc 21) (q_look (t_X2_pop_0) pc) (q_look (t_X2_pop_1) pc)) (cond (Nat.ble pc 59) (q_look (t_X2_pop_2) pc) (q_look (t_X2_pop_3) pc))
theorem ts_X2_pop (sx : QX) (pc : Nat) : ∀ o, t_X2_pop pc = some o → q_Snd sx RX2 cX2_pop 4 (some .boolean) pc o := by
  unfold t_X2_pop
  exact q_cb (q_cb (q_look_all (ts_X2_pop_0 sx)) (q_look_all (ts_X2_pop_1 sx))) (q_cb (q_look_all (ts_X2_pop_2 sx)) (q_look_all (ts_X2_pop_3 sx)))
theorem d_X3_begin_0 : decode cX3_begin 0 = .ok (.aload_n 0, 1) := by decide +kernel
theorem d_X3_begin_1 : decode cX3_begin 1 = .ok (.iconst 0, 1) := by decide +kernel
theorem d_X3_begin_2 : decode cX3_begin 2 = .ok (.putfield 34, 3) := by decide +kernel
theorem d_X3_begin_5 : decode cX3_begin 5 = .ok (.aload_n 0, 1) := by decide +kernel
theorem d_X3_begin_6 : decode cX3_begin 6 = .ok (.getfield 9, 3) := by decide +kernel
theorem d_X3_begin_9 : decode cX3_begin 9 = .ok (.iconst 0, 1) := by decide +kernel
theorem d_X3_begin_10 : decode cX3_begin 10 = .ok (.invokestatic 38, 3) := by decide +kernel
theorem d_X3_begin_13 : decode cX3_begin 13 = .ok (.aload_n 0, 1) := by decide +kernel
theorem d_X3_begin_14 : decode cX3_begin 14 = .ok (.getfield 15, 3) := by decide +kernel
theorem d_X3_begin_17 : decode cX3_begin 17 = .ok (.iconst 0, 1) := by decide +kernel
theorem d_X3_begin_18 : decode cX3_begin 18 = .ok (.invokestatic 38, 3) := by decide +kernel
theorem d_X3_begin_21 : decode cX3_begin 21 = .ok (.aload_n 0, 1) := by decide +kernel
theorem d_X3_begin_22 : decode cX3_begin 22 = .ok (.getfield 18, 3) := by decide +kernel
theorem d_X3_begin_25 : decode cX3_begin 25 = .ok (.bipush (-4), 2) := by decide +kernel
theorem d_X3_begin_27 : decode cX3_begin 27 = .ok (.invokestatic 38, 3) := by decide +kernel
theorem d_X3_begin_30 : decode cX3_begin 30 = .ok (.aload_n 0, 1) := by decide +kernel
theorem d_X3_begin_31 : decode cX3_begin 31 = .ok (.getfield 30, 3) := by decide +kernel
theorem d_X3_begin_34 : decode cX3_begin 34 = .ok (.getfield 42, 3) := by decide +kernel
theorem d_X3_begin_37 : decode cX3_begin 37 = .ok (.aload_n 0, 1) := by decide +kernel
theorem d_X3_begin_38 : decode cX3_begin 38 = .ok (.getfield 21, 3) := by decide +kernel
theorem d_X3_begin_41 : decode cX3_begin 41 = .ok (.invokestatic 47, 3) := by decide +kernel
theorem d_X3_begin_44 : decode cX3_begin 44 = .ok (.aload_n 0, 1) := by decide +kernel
theorem d_X3_begin_45 : decode cX3_begin 45 = .ok (.getfield 24, 3) := by decide +kernel
theorem d_X3_begin_48 : decode cX3_begin 48 = .ok (.iconst 0, 1) := by decide +kernel
theorem d_X3_begin_49 : decode cX3_begin 49 = .ok (.invokestatic 38, 3) := by decide +kernel
theorem d_X3_begin_52 : decode cX3_begin 52 = .ok (.aload_n 0, 1) := by decide +kernel
theorem d_X3_begin_53 : decode cX3_begin 53 = .ok (.getfield 30, 3) := by decide +kernel
theorem d_X3_begin_56 : decode cX3_begin 56 = .ok (.getfield 51, 3) := by decide +kernel
theorem d_X3_begin_59 : decode cX3_begin 59 = .ok (.aload_n 0, 1) := by decide +kernel
theorem d_X3_begin_60 : decode cX3_begin 60 = .ok (.getfield 27, 3) := by decide +kernel
theorem d_X3_begin_63 : decode cX3_begin 63 = .ok (.invokestatic 47, 3) := by decide +kernel
theorem d_X3_begin_66 : decode cX3_begin 66 = .ok (.return_, 1) := by decide +kernel
def t_X3_begin_0 : List (Nat × QO) := [(0, o_al 0 1), (1, o_k 0 2), (2, o_pf 3 1 5), (5, o_al 0 6), (6, o_gf 3 2 9), (9, o_k 0 10), (10, o_cS 0 99 3 2 13), (13, o_al 0 14), (14, o_gf 3 3 17), (17, o_k 0 18), (18, o_cS 0 99 3 2 21), (21, o_al 0 22)]
theorem ts_X3_begin_0 (sx : QX) : ∀ q ∈ t_X3_begin_0, q_Snd sx RX3 cX3_begin 1 none q.1 q.2 := List.forall_mem_cons.mpr ⟨s_aload_n d_X3_begin_0 rfl, List.forall_mem_cons.mpr ⟨s_iconst d_X3_begin_1 rfl, List.forall_mem_cons.mpr ⟨s_pf tyX3 d_X3_begin_2 rfl (by decide) n_X3 in_X3 rfl k_1_117 tyX3_ok nmX3 rfl rfl, List.forall_mem_cons.mpr ⟨s_aload_n d_X3_begin_5 rfl, List.forall_mem_cons.mpr ⟨s_gf d_X3_begin_6 rfl (by decide) n_X3 in_X3 rfl k_1_119, List.forall_mem_cons.mpr ⟨s_iconst d_X3_begin_9 rfl, List.forall_mem_cons.mpr ⟨s_cN (host := "StoneApologies") rfl d_X3_begin_10 (List.mem_of_getElem? (i := 8) rfl) k_2_38 k_1_1 k_2_39 ⟨by decide, by decide⟩ (by decide +kernel) (by decide), List.forall_mem_cons.mpr ⟨s_aload_n d_X3_begin_13 rfl, List.forall_mem_cons.mpr ⟨s_gf d_X3_begin_14 rfl (by decide) n_X3 in_X3 rfl k_1_122, List.forall_mem_cons.mpr ⟨s_iconst d_X3_begin_17 rfl, List.forall_mem_cons.mpr ⟨s_cN (host := "StoneApologies") rfl d_X3_begin_18 (List.mem_of_getElem? (i := 8) rfl) k_2_38 k_1_1 k_2_39 ⟨by decide, by decide⟩ (by decide +kernel) (by decide), List.forall_mem_cons.mpr ⟨s_aload_n d_X3_begin_21 rfl, fun _ h => absurd h List.not_mem_nil⟩⟩⟩⟩⟩⟩⟩⟩⟩⟩⟩⟩
def t_X3_begin_1 : List (Nat × QO) := [(22, o_gf 3 4 25), (25, o_k (-4) 27), (27, o_cS 0 99 3 2 30), (30, o_al 0 31), (31, o_gf 3 0 34), (34, o_gf 0 8 37), (37, o_al 0 38), (38, o_gf 3 5 41), (41, o_cS 0 100 3 2 44), (44, o_al 0 45), (45, o_gf 3 6 48), (48, o_k 0 49)]
theorem ts_X3_begin_1 (sx : QX) : ∀ q ∈ t_X3_begin_1, q_Snd sx RX3 cX3_begin 1 none q.1 q.2 := List.forall_mem_cons.mpr ⟨s_gf d_X3_begin_22 rfl (by decide) n_X3 in_X3 rfl k_1_124, List.forall_mem_cons.mpr ⟨s_bipush d_X3_begin_25 rfl, List.forall_mem_cons.mpr ⟨s_cN (host := "StoneApologies") rfl d_X3_begin_27 (List.mem_of_getElem? (i := 8) rfl) k_2_38 k_1_1 k_2_39 ⟨by decide, by decide⟩ (by decide +kernel) (by decide), List.forall_mem_cons.mpr ⟨s_aload_n d_X3_begin_30 rfl, List.forall_mem_cons.mpr ⟨s_gf d_X3_begin_31 rfl (by decide) n_X3 in_X3 rfl k_1_113, List.forall_mem_cons.mpr ⟨s_gf d_X3_begin_34 rfl (by decide) n_X0 in_X0 rfl k_1_74, List.forall_mem_cons.mpr ⟨s_aload_n d_X3_begin_37 rfl, List.forall_mem_cons.mpr ⟨s_gf d_X3_begin_38 rfl (by decide) n_X3 in_X3 rfl k_1_126, List.forall_mem_cons.mpr ⟨s_cN (host := "StoneApologies") rfl d_X3_begin_41 (List.mem_of_getElem? (i := 9) rfl) k_2_111 k_1_1 k_2_112 ⟨by decide, by decide⟩ (by decide +kernel) (by decide), List.forall_mem_cons.mpr ⟨s_aload_n d_X3_begin_44 rfl, List.forall_mem_cons.mpr ⟨s_gf d_X3_begin_45 rfl (by decide) n_X3 in_X3 rfl k_1_129, List.forall_mem_cons.mpr ⟨s_iconst d_X3_begin_48 rfl, fun _ h => absurd h List.not_mem_nil⟩⟩⟩⟩⟩⟩⟩⟩⟩⟩⟩⟩
def t_X3_begin_2 : List (Nat × QO) := [(49, o_cS 0 99 3 2 52), (52, o_al 0 53), (53, o_gf 3 0 56), (56, o_gf 0 9 59), (59, o_al 0 60), (60, o_gf 3 7 63), (63, o_cS 0 100 3 2 66), (66, o_vr)]
theorem ts_X3_begin_2 (sx : QX) : ∀ q ∈ t_X3_begin_2, q_Snd sx RX3 cX3_begin 1 none q.1 q.2 := List.forall_mem_cons.mpr ⟨s_cN (host := "StoneApologies") rfl d_X3_begin_49 (List.mem_of_getElem? (i := 8) rfl) k_2_38 k_1_1 k_2_39 ⟨by decide, by decide⟩ (by decide +kernel) (by decide), List.forall_mem_cons.mpr ⟨s_aload_n d_X3_begin_52 rfl, List.forall_mem_cons.mpr ⟨s_gf d_X3_begin_53 rfl (by decide) n_X3 in_X3 rfl k_1_113, List.forall_mem_cons.mpr ⟨s_gf d_X3_begin_56 rfl (by decide) n_X0 in_X0 rfl k_1_77, List.forall_mem_cons.mpr ⟨s_aload_n d_X3_begin_59 rfl, List.forall_mem_cons.mpr ⟨s_gf d_X3_begin_60 rfl (by decide) n_X3 in_X3 rfl k_1_130, List.forall_mem_cons.mpr ⟨s_cN (host := "StoneApologies") rfl d_X3_begin_63 (List.mem_of_getElem? (i := 9) rfl) k_2_111 k_1_1 k_2_112 ⟨by decide, by decide⟩ (by decide +kernel) (by decide), List.forall_mem_cons.mpr ⟨s_vr d_X3_begin_66 rfl, fun _ h => absurd h List.not_mem_nil⟩⟩⟩⟩⟩⟩⟩⟩
def t_X3_begin (pc : Nat) : Option QO := cond (Nat.ble pc 21) (q_look (t_X3_begin_0) pc) (cond (Nat.ble pc 48) (q_look (t_X3_begin_1) pc) (q_look (t_X3_begin_2) pc))
theorem ts_X3_begin (sx : QX) (pc : Nat) : ∀ o, t_X3_begin pc = some o → q_Snd sx RX3 cX3_begin 1 none pc o := by
  unfold t_X3_begin
  exact q_cb (q_look_all (ts_X3_begin_0 sx)) (q_cb (q_look_all (ts_X3_begin_1 sx)) (q_look_all (ts_X3_begin_2 sx)))
theorem d_X3_copyFrom_0 : decode cX3_copyFrom 0 = .ok (.aload_n 0, 1) := by decide +kernel
theorem d_X3_copyFrom_1 : decode cX3_copyFrom 1 = .ok (.aload_n 1, 1) := by decide +kernel
theorem d_X3_copyFrom_2 : decode cX3_copyFrom 2 = .ok (.getfield 34, 3) := by decide +kernel
theorem d_X3_copyFrom_5 : decode cX3_copyFrom 5 = .ok (.putfield 34, 3) := by decide +kernel
theorem d_X3_copyFrom_8 : decode cX3_copyFrom 8 = .ok (.aload_n 1, 1) := by decide +kernel
theorem d_X3_copyFrom_9 : decode cX3_copyFrom 9 = .ok (.getfield 9, 3) := by decide +kernel
theorem d_X3_copyFrom_12 : decode cX3_copyFrom 12 = .ok (.aload_n 0, 1) := by decide +kernel
theorem d_X3_copyFrom_13 : decode cX3_copyFrom 13 = .ok (.getfield 9, 3) := by decide +kernel
theorem d_X3_copyFrom_16 : decode cX3_copyFrom 16 = .ok (.invokestatic 47, 3) := by decide +kernel
theorem d_X3_copyFrom_19 : decode cX3_copyFrom 19 = .ok (.aload_n 1, 1) := by decide +kernel
theorem d_X3_copyFrom_20 : decode cX3_copyFrom 20 = .ok (.getfield 15, 3) := by decide +kernel
theorem d_X3_copyFrom_23 : decode cX3_copyFrom 23 = .ok (.aload_n 0, 1) := by decide +kernel
theorem d_X3_copyFrom_24 : decode cX3_copyFrom 24 = .ok (.getfield 15, 3) := by decide +kernel
theorem d_X3_copyFrom_27 : decode cX3_copyFrom 27 = .ok (.invokestatic 47, 3) := by decide +kernel
theorem d_X3_copyFrom_30 : decode cX3_copyFrom 30 = .ok (.aload_n 1, 1) := by decide +kernel
theorem d_X3_copyFrom_31 : decode cX3_copyFrom 31 = .ok (.getfield 18, 3) := by decide +kernel
theorem d_X3_copyFrom_34 : decode cX3_copyFrom 34 = .ok (.aload_n 0, 1) := by decide +kernel
theorem d_X3_copyFrom_35 : decode cX3_copyFrom 35 = .ok (.getfield 18, 3) := by decide +kernel
theorem d_X3_copyFrom_38 : decode cX3_copyFrom 38 = .ok (.invokestatic 47, 3) := by decide +kernel
theorem d_X3_copyFrom_41 : decode cX3_copyFrom 41 = .ok (.aload_n 1, 1) := by decide +kernel
theorem d_X3_copyFrom_42 : decode cX3_copyFrom 42 = .ok (.getfield 21, 3) := by decide +kernel
theorem d_X3_copyFrom_45 : decode cX3_copyFrom 45 = .ok (.aload_n 0, 1) := by decide +kernel
theorem d_X3_copyFrom_46 : decode cX3_copyFrom 46 = .ok (.getfield 21, 3) := by decide +kernel
theorem d_X3_copyFrom_49 : decode cX3_copyFrom 49 = .ok (.invokestatic 47, 3) := by decide +kernel
theorem d_X3_copyFrom_52 : decode cX3_copyFrom 52 = .ok (.aload_n 1, 1) := by decide +kernel
theorem d_X3_copyFrom_53 : decode cX3_copyFrom 53 = .ok (.getfield 24, 3) := by decide +kernel
theorem d_X3_copyFrom_56 : decode cX3_copyFrom 56 = .ok (.aload_n 0, 1) := by decide +kernel
theorem d_X3_copyFrom_57 : decode cX3_copyFrom 57 = .ok (.getfield 24, 3) := by decide +kernel
theorem d_X3_copyFrom_60 : decode cX3_copyFrom 60 = .ok (.invokestatic 47, 3) := by decide +kernel
theorem d_X3_copyFrom_63 : decode cX3_copyFrom 63 = .ok (.aload_n 1, 1) := by decide +kernel
theorem d_X3_copyFrom_64 : decode cX3_copyFrom 64 = .ok (.getfield 27, 3) := by decide +kernel
theorem d_X3_copyFrom_67 : decode cX3_copyFrom 67 = .ok (.aload_n 0, 1) := by decide +kernel
theorem d_X3_copyFrom_68 : decode cX3_copyFrom 68 = .ok (.getfield 27, 3) := by decide +kernel
theorem d_X3_copyFrom_71 : decode cX3_copyFrom 71 = .ok (.invokestatic 47, 3) := by decide +kernel
theorem d_X3_copyFrom_74 : decode cX3_copyFrom 74 = .ok (.return_, 1) := by decide +kernel
def t_X3_copyFrom_0 : List (Nat × QO) := [(0, o_al 0 1), (1, o_al 1 2), (2, o_gf 3 1 5), (5, o_pf 3 1 8), (8, o_al 1 9), (9, o_gf 3 2 12), (12, o_al 0 13), (13, o_gf 3 2 16), (16, o_cS 0 100 3 2 19), (19, o_al 1 20), (20, o_gf 3 3 23), (23, o_al 0 24)]
theorem ts_X3_copyFrom_0 (sx : QX) : ∀ q ∈ t_X3_copyFrom_0, q_Snd sx RX3 cX3_copyFrom 2 none q.1 q.2 := List.forall_mem_cons.mpr ⟨s_aload_n d_X3_copyFrom_0 rfl, List.forall_mem_cons.mpr ⟨s_aload_n d_X3_copyFrom_1 rfl, List.forall_mem_cons.mpr ⟨s_gf d_X3_copyFrom_2 rfl (by decide) n_X3 in_X3 rfl k_1_117, List.forall_mem_cons.mpr ⟨s_pf tyX3 d_X3_copyFrom_5 rfl (by decide) n_X3 in_X3 rfl k_1_117 tyX3_ok nmX3 rfl rfl, List.forall_mem_cons.mpr ⟨s_aload_n d_X3_copyFrom_8 rfl, List.forall_mem_cons.mpr ⟨s_gf d_X3_copyFrom_9 rfl (by decide) n_X3 in_X3 rfl k_1_119, List.forall_mem_cons.mpr ⟨s_aload_n d_X3_copyFrom_12 rfl, List.forall_mem_cons.mpr ⟨s_gf d_X3_copyFrom_13 rfl (by decide) n_X3 in_X3 rfl k_1_119, List.forall_mem_cons.mpr ⟨s_cN (host := "StoneApologies") rfl d_X3_copyFrom_16 (List.mem_of_getElem? (i := 9) rfl) k_2_111 k_1_1 k_2_112 ⟨by decide, by decide⟩ (by decide +kernel) (by decide), List.forall_mem_cons.mpr ⟨s_aload_n d_X3_copyFrom_19 rfl, List.forall_mem_cons.mpr ⟨s_gf d_X3_copyFrom_20 rfl (by decide) n_X3 in_X3 rfl k_1_122, List.forall_mem_cons.mpr ⟨s_aload_n d_X3_copyFrom_23 rfl, fun _ h => absurd h List.not_mem_nil⟩⟩⟩⟩⟩⟩⟩⟩⟩⟩⟩⟩
def t_X3_copyFrom_1 : List (Nat × QO) := [(24, o_gf 3 3 27), (27, o_cS 0 100 3 2 30), (30, o_al 1 31), (31, o_gf 3 4 34), (34, o_al 0 35), (35, o_gf 3 4 38), (38, o_cS 0 100 3 2 41), (41, o_al 1 42), (42, o_gf 3 5 45), (45, o_al 0 46), (46, o_gf 3 5 49), (49, o_cS 0 100 3 2 52)]
theorem ts_X3_copyFrom_1 (sx : QX) : ∀ q ∈ t_X3_copyFrom_1, q_Snd sx RX3 cX3_copyFrom 2 none q.1 q.2 := List.forall_mem_cons.mpr ⟨s_gf d_X3_copyFrom_24 rfl (by decide) n_X3 in_X3 rfl k_1_122, List.forall_mem_cons.mpr ⟨s_cN (host := "StoneApologies") rfl d_X3_copyFrom_27 (List.mem_of_getElem? (i := 9) rfl) k_2_111 k_1_1 k_2_112 ⟨by decide, by decide⟩ (by decide +kernel) (by decide), List.forall_mem_cons.mpr ⟨s_aload_n d_X3_copyFrom_30 rfl, List.forall_mem_cons.mpr ⟨s_gf d_X3_copyFrom_31 rfl (by decide) n_X3 in_X3 rfl k_1_124, List.forall_mem_cons.mpr ⟨s_aload_n d_X3_copyFrom_34 rfl, List.forall_mem_cons.mpr ⟨s_gf d_X3_copyFrom_35 rfl (by decide) n_X3 in_X3 rfl k_1_124, List.forall_mem_cons.mpr ⟨s_cN (host := "StoneApologies") rfl d_X3_copyFrom_38 (List.mem_of_getElem? (i := 9) rfl) k_2_111 k_1_1 k_2_112 ⟨by decide, by decide⟩ (by decide +kernel) (by decide), List.forall_mem_cons.mpr ⟨s_aload_n d_X3_copyFrom_41 rfl, List.forall_mem_cons.mpr ⟨s_gf d_X3_copyFrom_42 rfl (by decide) n_X3 in_X3 rfl k_1_126, List.forall_mem_cons.mpr ⟨s_aload_n d_X3_copyFrom_45 rfl, List.forall_mem_cons.mpr ⟨s_gf d_X3_copyFrom_46 rfl (by decide) n_X3 in_X3 rfl k_1_126, List.forall_mem_cons.mpr ⟨s_cN (host := "StoneApologies") rfl d_X3_copyFrom_49 (List.mem_of_getElem? (i := 9) rfl) k_2_111 k_1_1 k_2_112 ⟨by decide, by decide⟩ (by decide +kernel) (by decide), fun _ h => absurd h List.not_mem_nil⟩⟩⟩⟩⟩⟩⟩⟩⟩⟩⟩⟩
def t_X3_copyFrom_2 : List (Nat × QO) := [(52, o_al 1 53), (53, o_gf 3 6 56), (56, o_al 0 57), (57, o_gf 3 6 60), (60, o_cS 0 100 3 2 63), (63, o_al 1 64), (64, o_gf 3 7 67), (67, o_al 0 68), (68, o_gf 3 7 71), (71, o_cS 0 100 3 2 74), (74, o_vr)]
theorem ts_X3_copyFrom_2 (sx : QX) : ∀ q ∈ t_X3_copyFrom_2, q_Snd sx RX3 cX3_copyFrom 2 none q.1 q.2 := List.forall_mem_cons.mpr ⟨s_aload_n d_X3_copyFrom_52 rfl, List.forall_mem_cons.mpr ⟨s_gf d_X3_copyFrom_53 rfl (by decide) n_X3 in_X3 rfl k_1_129, List.forall_mem_cons.mpr ⟨s_aload_n d_X3_copyFrom_56 rfl, List.forall_mem_cons.mpr ⟨s_gf d_X3_copyFrom_57 rfl (by decide) n_X3 in_X3 rfl k_1_129, List.forall_mem_cons.mpr ⟨s_cN (host := "StoneApologies") rfl d_X3_copyFrom_60 (List.mem_of_getElem? (i := 9) rfl) k_2_111 k_1_1 k_2_112 ⟨by decide, by decide⟩ (by decide +kernel) (by decide), List.forall_mem_cons.mpr ⟨s_aload_n d_X3_copyFrom_63 rfl, List.forall_mem_cons.mpr ⟨s_gf d_X3_copyFrom_64 rfl (by decide) n_X3 in_X3 rfl k_1_130, List.forall_mem_cons.mpr ⟨s_aload_n d_X3_copyFrom_67 rfl, List.forall_mem_cons.mpr ⟨s_gf d_X3_copyFrom_68 rfl (by decide) n_X3 in_X3 rfl k_1_130, List.forall_mem_cons.mpr ⟨s_cN (host := "StoneApologies") rfl d_X3_copyFrom_71 (List.mem_of_getElem? (i := 9) rfl) k_2_111 k_1_1 k_2_112 ⟨by decide, by decide⟩ (by decide +kernel) (by decide), List.forall_mem_cons.mpr ⟨s_vr d_X3_copyFrom_74 rfl, fun _ h => absurd h List.not_mem_nil⟩⟩⟩⟩⟩⟩⟩⟩⟩⟩⟩
def t_X3_copyFrom (pc : Nat) : Option QO := cond (Nat.ble pc 23) (q_look (t_X3_copyFrom_0) pc) (cond (Nat.ble pc 49) (q_look (t_X3_copyFrom_1) pc) (q_look (t_X3_copyFrom_2) pc))
theorem ts_X3_copyFrom (sx : QX) (pc : Nat) : ∀ o, t_X3_copyFrom pc = some o → q_Snd sx RX3 cX3_copyFrom 2 none pc o := by
  unfold t_X3_copyFrom
  exact q_cb (q_look_all (ts_X3_copyFrom_0 sx)) (q_cb (q_look_all (ts_X3_copyFrom_1 sx)) (q_look_all (ts_X3_copyFrom_2 sx)))
theorem d_X3_isIn_0 : decode cX3_isIn 0 = .ok (.aload_n 0, 1) := by decide +kernel
theorem d_X3_isIn_1 : decode cX3_isIn 1 = .ok (.getfield 15, 3) := by decide +kernel
theorem d_X3_isIn_4 : decode cX3_isIn 4 = .ok (.iload_n 1, 1) := by decide +kernel
theorem d_X3_isIn_5 : decode cX3_isIn 5 = .ok (.invokestatic 54, 3) := by decide +kernel
theorem d_X3_isIn_8 : decode cX3_isIn 8 = .ok (.iload_n 2, 1) := by decide +kernel
theorem d_X3_isIn_9 : decode cX3_isIn 9 = .ok (.if_icmp .ne 7, 3) := by decide +kernel
theorem d_X3_isIn_12 : decode cX3_isIn 12 = .ok (.iconst 1, 1) := by decide +kernel
theorem d_X3_isIn_13 : decode cX3_isIn 13 = .ok (.goto 4, 3) := by decide +kernel
theorem d_X3_isIn_16 : decode cX3_isIn 16 = .ok (.iconst 0, 1) := by decide +kernel
theorem d_X3_isIn_17 : decode cX3_isIn 17 = .ok (.ireturn, 1) := by decide +kernel
def t_X3_isIn_0 : List (Nat × QO) := [(0, o_al 0 1), (1, o_gf 3 3 4), (4, o_il 1 5), (5, o_cS 1 97 2 2 8), (8, o_il 2 9), (9, o_ic (fun x y => decide (x ≠ y)) 16 12), (12, o_k 1 13), (13, o_goto 17), (16, o_k 0 17), (17, o_ir true)]
theorem ts_X3_isIn_0 (sx : QX) : ∀ q ∈ t_X3_isIn_0, q_Snd sx RX3 cX3_isIn 3 (some .boolean) q.1 q.2 := List.forall_mem_cons.mpr ⟨s_aload_n d_X3_isIn_0 rfl, List.forall_mem_cons.mpr ⟨s_gf d_X3_isIn_1 rfl (by decide) n_X3 in_X3 rfl k_1_122, List.forall_mem_cons.mpr ⟨s_iload_n d_X3_isIn_4 rfl, List.forall_mem_cons.mpr ⟨s_cN (host := "StoneApologies") rfl d_X3_isIn_5 (List.mem_of_getElem? (i := 10) rfl) k_2_57 k_1_1 k_2_58 ⟨by decide, by decide⟩ (by decide +kernel) (by decide), List.forall_mem_cons.mpr ⟨s_iload_n d_X3_isIn_8 rfl, List.forall_mem_cons.mpr ⟨s_ic_ne d_X3_isIn_9 (by decide), List.forall_mem_cons.mpr ⟨s_iconst d_X3_isIn_12 rfl, List.forall_mem_cons.mpr ⟨s_goto d_X3_isIn_13 (by decide), List.forall_mem_cons.mpr ⟨s_iconst d_X3_isIn_16 rfl, List.forall_mem_cons.mpr ⟨s_zr d_X3_isIn_17 rfl, fun _ h => absurd h List.not_mem_nil⟩⟩⟩⟩⟩⟩⟩⟩⟩⟩
def t_X3_isIn (pc : Nat) : Option QO := q_look (t_X3_isIn_0) pc
theorem ts_X3_isIn (sx : QX) (pc : Nat) : ∀ o, t_X3_isIn pc = some o → q_Snd sx RX3 cX3_isIn 3 (some .boolean) pc o := by
  unfold t_X3_isIn
  exact q_look_all (ts_X3_isIn_0 sx)
theorem d_X3_tally_0 : decode cX3_tally 0 = .ok (.iconst 0, 1) := by decide +kernel
theorem d_X3_tally_1 : decode cX3_tally 1 = .ok (.istore_n 2, 1) := by decide +kernel
theorem d_X3_tally_2 : decode cX3_tally 2 = .ok (.iconst 0, 1) := by decide +kernel
theorem d_X3_tally_3 : decode cX3_tally 3 = .ok (.istore_n 3, 1) := by decide +kernel
theorem d_X3_tally_4 : decode cX3_tally 4 = .ok (.iload_n 3, 1) := by decide +kernel
theorem d_X3_tally_5 : decode cX3_tally 5 = .ok (.aload_n 0, 1) := by decide +kernel
theorem d_X3_tally_6 : decode cX3_tally 6 = .ok (.getfield 30, 3) := by decide +kernel
theorem d_X3_tally_9 : decode cX3_tally 9 = .ok (.getfield 58, 3) := by decide +kernel
theorem d_X3_tally_12 : decode cX3_tally 12 = .ok (.if_icmp .ge 24, 3) := by decide +kernel
theorem d_X3_tally_15 : decode cX3_tally 15 = .ok (.aload_n 0, 1) := by decide +kernel
theorem d_X3_tally_16 : decode cX3_tally 16 = .ok (.getfield 15, 3) := by decide +kernel
theorem d_X3_tally_19 : decode cX3_tally 19 = .ok (.iload_n 3, 1) := by decide +kernel
theorem d_X3_tally_20 : decode cX3_tally 20 = .ok (.invokestatic 54, 3) := by decide +kernel
theorem d_X3_tally_23 : decode cX3_tally 23 = .ok (.iload_n 1, 1) := by decide +kernel
theorem d_X3_tally_24 : decode cX3_tally 24 = .ok (.if_icmp .ne 6, 3) := by decide +kernel
theorem d_X3_tally_27 : decode cX3_tally 27 = .ok (.iinc 2 1, 3) := by decide +kernel
theorem d_X3_tally_30 : decode cX3_tally 30 = .ok (.iinc 3 1, 3) := by decide +kernel
theorem d_X3_tally_33 : decode cX3_tally 33 = .ok (.goto (-29), 3) := by decide +kernel
theorem d_X3_tally_36 : decode cX3_tally 36 = .ok (.iload_n 2, 1) := by decide +kernel
theorem d_X3_tally_37 : decode cX3_tally 37 = .ok (.ireturn, 1) := by decide +kernel
def t_X3_tally_0 : List (Nat × QO) := [(0, o_k 0 1), (1, o_is 2 2), (2, o_k 0 3), (3, o_is 3 4), (4, o_il 3 5), (5, o_al 0 6), (6, o_gf 3 0 9), (9, o_gf 0 0 12), (12, o_ic (fun x y => decide (y ≤ x)) 36 15), (15, o_al 0 16), (16, o_gf 3 3 19), (19, o_il 3 20)]
theorem ts_X3_tally_0 (sx : QX) : ∀ q ∈ t_X3_tally_0, q_Snd sx RX3 cX3_tally 4 (some .int) q.1 q.2 := List.forall_mem_cons.mpr ⟨s_iconst d_X3_tally_0 rfl, List.forall_mem_cons.mpr ⟨s_istore_n d_X3_tally_1 rfl (by decide), List.forall_mem_cons.mpr ⟨s_iconst d_X3_tally_2 rfl, List.forall_mem_cons.mpr ⟨s_istore_n d_X3_tally_3 rfl (by decide), List.forall_mem_cons.mpr ⟨s_iload_n d_X3_tally_4 rfl, List.forall_mem_cons.mpr ⟨s_aload_n d_X3_tally_5 rfl, List.forall_mem_cons.mpr ⟨s_gf d_X3_tally_6 rfl (by decide) n_X3 in_X3 rfl k_1_113, List.forall_mem_cons.mpr ⟨s_gf d_X3_tally_9 rfl (by decide) n_X0 in_X0 rfl k_1_52, List.forall_mem_cons.mpr ⟨s_ic_ge d_X3_tally_12 (by decide), List.forall_mem_cons.mpr ⟨s_aload_n d_X3_tally_15 rfl, List.forall_mem_cons.mpr ⟨s_gf d_X3_tally_16 rfl (by decide) n_X3 in_X3 rfl k_1_122, List.forall_mem_cons.mpr ⟨s_iload_n d_X3_tally_19 rfl, fun _ h => absurd h List.not_mem_nil⟩⟩⟩⟩⟩⟩⟩⟩⟩⟩⟩⟩
def t_X3_tally_1 : List (Nat × QO) := [(20, o_cS 1 97 2 2 23), (23, o_il 1 24), (24, o_ic (fun x y => decide (x ≠ y)) 30 27), (27, o_inc 2 1 30), (30, o_inc 3 1 33), (33, o_goto 4), (36, o_il 2 37), (37, o_ir false)]
theorem ts_X3_tally_1 (sx : QX) : ∀ q ∈ t_X3_tally_1, q_Snd sx RX3 cX3_tally 4 (some .int) q.1 q.2 := List.forall_mem_cons.mpr ⟨s_cN (host := "StoneApologies") rfl d_X3_tally_20 (List.mem_of_getElem? (i := 10) rfl) k_2_57 k_1_1 k_2_58 ⟨by decide, by decide⟩ (by decide +kernel) (by decide), List.forall_mem_cons.mpr ⟨s_iload_n d_X3_tally_23 rfl, List.forall_mem_cons.mpr ⟨s_ic_ne d_X3_tally_24 (by decide), List.forall_mem_cons.mpr ⟨s_iinc d_X3_tally_27 rfl (by decide), List.forall_mem_cons.mpr ⟨s_iinc d_X3_tally_30 rfl (by decide), List.forall_mem_cons.mpr ⟨s_goto d_X3_tally_33 (by decide), List.forall_mem_cons.mpr ⟨s_iload_n d_X3_tally_36 rfl, List.forall_mem_cons.mpr ⟨s_ir d_X3_tally_37 rfl, fun _ h => absurd h List.not_mem_nil⟩⟩⟩⟩⟩⟩⟩⟩
def t_X3_tally (pc : Nat) : Option QO := cond (Nat.ble pc 19) (q_look (t_X3_tally_0) pc) (q_look (t_X3_tally_1) pc)
theorem ts_X3_tally (sx : QX) (pc : Nat) : ∀ o, t_X3_tally pc = some o → q_Snd sx RX3 cX3_tally 4 (some .int) pc o := by
  unfold t_X3_tally
  exact q_cb (q_look_all (ts_X3_tally_0 sx)) (q_look_all (ts_X3_tally_1 sx))
theorem d_X3_hoursLeft_0 : decode cX3_hoursLeft 0 = .ok (.iconst 0, 1) := by decide +kernel
theorem d_X3_hoursLeft_1 : decode cX3_hoursLeft 1 = .ok (.istore_n 1, 1) := by decide +kernel
theorem d_X3_hoursLeft_2 : decode cX3_hoursLeft 2 = .ok (.iconst 0, 1) := by decide +kernel
theorem d_X3_hoursLeft_3 : decode cX3_hoursLeft 3 = .ok (.istore_n 2, 1) := by decide +kernel
theorem d_X3_hoursLeft_4 : decode cX3_hoursLeft 4 = .ok (.iload_n 2, 1) := by decide +kernel
theorem d_X3_hoursLeft_5 : decode cX3_hoursLeft 5 = .ok (.aload_n 0, 1) := by decide +kernel
theorem d_X3_hoursLeft_6 : decode cX3_hoursLeft 6 = .ok (.getfield 30, 3) := by decide +kernel
theorem d_X3_hoursLeft_9 : decode cX3_hoursLeft 9 = .ok (.getfield 61, 3) := by decide +kernel
theorem d_X3_hoursLeft_12 : decode cX3_hoursLeft 12 = .ok (.if_icmp .ge 20, 3) := by decide +kernel
theorem d_X3_hoursLeft_15 : decode cX3_hoursLeft 15 = .ok (.iload_n 1, 1) := by decide +kernel
theorem d_X3_hoursLeft_16 : decode cX3_hoursLeft 16 = .ok (.aload_n 0, 1) := by decide +kernel
theorem d_X3_hoursLeft_17 : decode cX3_hoursLeft 17 = .ok (.getfield 21, 3) := by decide +kernel
theorem d_X3_hoursLeft_20 : decode cX3_hoursLeft 20 = .ok (.iload_n 2, 1) := by decide +kernel
theorem d_X3_hoursLeft_21 : decode cX3_hoursLeft 21 = .ok (.invokestatic 54, 3) := by decide +kernel
theorem d_X3_hoursLeft_24 : decode cX3_hoursLeft 24 = .ok (.iadd, 1) := by decide +kernel
theorem d_X3_hoursLeft_25 : decode cX3_hoursLeft 25 = .ok (.istore_n 1, 1) := by decide +kernel
theorem d_X3_hoursLeft_26 : decode cX3_hoursLeft 26 = .ok (.iinc 2 1, 3) := by decide +kernel
theorem d_X3_hoursLeft_29 : decode cX3_hoursLeft 29 = .ok (.goto (-25), 3) := by decide +kernel
theorem d_X3_hoursLeft_32 : decode cX3_hoursLeft 32 = .ok (.iload_n 1, 1) := by decide +kernel
theorem d_X3_hoursLeft_33 : decode cX3_hoursLeft 33 = .ok (.ireturn, 1) := by decide +kernel
def t_X3_hoursLeft_0 : List (Nat × QO) := [(0, o_k 0 1), (1, o_is 1 2), (2, o_k 0 3), (3, o_is 2 4), (4, o_il 2 5), (5, o_al 0 6), (6, o_gf 3 0 9), (9, o_gf 0 2 12), (12, o_ic (fun x y => decide (y ≤ x)) 32 15), (15, o_il 1 16), (16, o_al 0 17), (17, o_gf 3 5 20)]
theorem ts_X3_hoursLeft_0 (sx : QX) : ∀ q ∈ t_X3_hoursLeft_0, q_Snd sx RX3 cX3_hoursLeft 3 (some .int) q.1 q.2 := List.forall_mem_cons.mpr ⟨s_iconst d_X3_hoursLeft_0 rfl, List.forall_mem_cons.mpr ⟨s_istore_n d_X3_hoursLeft_1 rfl (by decide), List.forall_mem_cons.mpr ⟨s_iconst d_X3_hoursLeft_2 rfl, List.forall_mem_cons.mpr ⟨s_istore_n d_X3_hoursLeft_3 rfl (by decide), List.forall_mem_cons.mpr ⟨s_iload_n d_X3_hoursLeft_4 rfl, List.forall_mem_cons.mpr ⟨s_aload_n d_X3_hoursLeft_5 rfl, List.forall_mem_cons.mpr ⟨s_gf d_X3_hoursLeft_6 rfl (by decide) n_X3 in_X3 rfl k_1_113, List.forall_mem_cons.mpr ⟨s_gf d_X3_hoursLeft_9 rfl (by decide) n_X0 in_X0 rfl k_1_60, List.forall_mem_cons.mpr ⟨s_ic_ge d_X3_hoursLeft_12 (by decide), List.forall_mem_cons.mpr ⟨s_iload_n d_X3_hoursLeft_15 rfl, List.forall_mem_cons.mpr ⟨s_aload_n d_X3_hoursLeft_16 rfl, List.forall_mem_cons.mpr ⟨s_gf d_X3_hoursLeft_17 rfl (by decide) n_X3 in_X3 rfl k_1_126, fun _ h => absurd h List.not_mem_nil⟩⟩⟩⟩⟩⟩⟩⟩⟩⟩⟩⟩
def t_X3_hoursLeft_1 : List (Nat × QO) := [(20, o_il 2 21), (21, o_cS 1 97 2 2 24), (24, o_b (fun x y => x + y) 25), (25, o_is 1 26), (26, o_inc 2 1 29), (29, o_goto 4), (32, o_il 1 33), (33, o_ir false)]
theorem ts_X3_hoursLeft_1 (sx : QX) : ∀ q ∈ t_X3_hoursLeft_1, q_Snd sx RX3 cX3_hoursLeft 3 (some .int) q.1 q.2 := List.forall_mem_cons.mpr ⟨s_iload_n d_X3_hoursLeft_20 rfl, List.forall_mem_cons.mpr ⟨s_cN (host := "StoneApologies") rfl d_X3_hoursLeft_21 (List.mem_of_getElem? (i := 10) rfl) k_2_57 k_1_1 k_2_58 ⟨by decide, by decide⟩ (by decide +kernel) (by decide), List.forall_mem_cons.mpr ⟨s_iadd d_X3_hoursLeft_24, List.forall_mem_cons.mpr ⟨s_istore_n d_X3_hoursLeft_25 rfl (by decide), List.forall_mem_cons.mpr ⟨s_iinc d_X3_hoursLeft_26 rfl (by decide), List.forall_mem_cons.mpr ⟨s_goto d_X3_hoursLeft_29 (by decide), List.forall_mem_cons.mpr ⟨s_iload_n d_X3_hoursLeft_32 rfl, List.forall_mem_cons.mpr ⟨s_ir d_X3_hoursLeft_33 rfl, fun _ h => absurd h List.not_mem_nil⟩⟩⟩⟩⟩⟩⟩⟩
def t_X3_hoursLeft (pc : Nat) : Option QO := cond (Nat.ble pc 17) (q_look (t_X3_hoursLeft_0) pc) (q_look (t_X3_hoursLeft_1) pc)
theorem ts_X3_hoursLeft (sx : QX) (pc : Nat) : ∀ o, t_X3_hoursLeft pc = some o → q_Snd sx RX3 cX3_hoursLeft 3 (some .int) pc o := by
  unfold t_X3_hoursLeft
  exact q_cb (q_look_all (ts_X3_hoursLeft_0 sx)) (q_look_all (ts_X3_hoursLeft_1 sx))
theorem d_X3_lackOf_0 : decode cX3_lackOf 0 = .ok (.aload_n 0, 1) := by decide +kernel
theorem d_X3_lackOf_1 : decode cX3_lackOf 1 = .ok (.getfield 30, 3) := by decide +kernel
theorem d_X3_lackOf_4 : decode cX3_lackOf 4 = .ok (.getfield 64, 3) := by decide +kernel
theorem d_X3_lackOf_7 : decode cX3_lackOf 7 = .ok (.iload_n 1, 1) := by decide +kernel
theorem d_X3_lackOf_8 : decode cX3_lackOf 8 = .ok (.invokestatic 54, 3) := by decide +kernel
theorem d_X3_lackOf_11 : decode cX3_lackOf 11 = .ok (.aload_n 0, 1) := by decide +kernel
theorem d_X3_lackOf_12 : decode cX3_lackOf 12 = .ok (.getfield 9, 3) := by decide +kernel
theorem d_X3_lackOf_15 : decode cX3_lackOf 15 = .ok (.iload_n 1, 1) := by decide +kernel
theorem d_X3_lackOf_16 : decode cX3_lackOf 16 = .ok (.invokestatic 54, 3) := by decide +kernel
theorem d_X3_lackOf_19 : decode cX3_lackOf 19 = .ok (.isub, 1) := by decide +kernel
theorem d_X3_lackOf_20 : decode cX3_lackOf 20 = .ok (.ireturn, 1) := by decide +kernel
def t_X3_lackOf_0 : List (Nat × QO) := [(0, o_al 0 1), (1, o_gf 3 0 4), (4, o_gf 0 5 7), (7, o_il 1 8), (8, o_cS 1 97 2 2 11), (11, o_al 0 12), (12, o_gf 3 2 15), (15, o_il 1 16), (16, o_cS 1 97 2 2 19), (19, o_b (fun x y => x - y) 20), (20, o_ir false)]
theorem ts_X3_lackOf_0 (sx : QX) : ∀ q ∈ t_X3_lackOf_0, q_Snd sx RX3 cX3_lackOf 2 (some .int) q.1 q.2 := List.forall_mem_cons.mpr ⟨s_aload_n d_X3_lackOf_0 rfl, List.forall_mem_cons.mpr ⟨s_gf d_X3_lackOf_1 rfl (by decide) n_X3 in_X3 rfl k_1_113, List.forall_mem_cons.mpr ⟨s_gf d_X3_lackOf_4 rfl (by decide) n_X0 in_X0 rfl k_1_68, List.forall_mem_cons.mpr ⟨s_iload_n d_X3_lackOf_7 rfl, List.forall_mem_cons.mpr ⟨s_cN (host := "StoneApologies") rfl d_X3_lackOf_8 (List.mem_of_getElem? (i := 10) rfl) k_2_57 k_1_1 k_2_58 ⟨by decide, by decide⟩ (by decide +kernel) (by decide), List.forall_mem_cons.mpr ⟨s_aload_n d_X3_lackOf_11 rfl, List.forall_mem_cons.mpr ⟨s_gf d_X3_lackOf_12 rfl (by decide) n_X3 in_X3 rfl k_1_119, List.forall_mem_cons.mpr ⟨s_iload_n d_X3_lackOf_15 rfl, List.forall_mem_cons.mpr ⟨s_cN (host := "StoneApologies") rfl d_X3_lackOf_16 (List.mem_of_getElem? (i := 10) rfl) k_2_57 k_1_1 k_2_58 ⟨by decide, by decide⟩ (by decide +kernel) (by decide), List.forall_mem_cons.mpr ⟨s_isub d_X3_lackOf_19, List.forall_mem_cons.mpr ⟨s_ir d_X3_lackOf_20 rfl, fun _ h => absurd h List.not_mem_nil⟩⟩⟩⟩⟩⟩⟩⟩⟩⟩⟩
def t_X3_lackOf (pc : Nat) : Option QO := q_look (t_X3_lackOf_0) pc
theorem ts_X3_lackOf (sx : QX) (pc : Nat) : ∀ o, t_X3_lackOf pc = some o → q_Snd sx RX3 cX3_lackOf 2 (some .int) pc o := by
  unfold t_X3_lackOf
  exact q_look_all (ts_X3_lackOf_0 sx)
theorem d_X3_timesHeard_0 : decode cX3_timesHeard 0 = .ok (.aload_n 0, 1) := by decide +kernel
theorem d_X3_timesHeard_1 : decode cX3_timesHeard 1 = .ok (.getfield 24, 3) := by decide +kernel
theorem d_X3_timesHeard_4 : decode cX3_timesHeard 4 = .ok (.iload_n 1, 1) := by decide +kernel
theorem d_X3_timesHeard_5 : decode cX3_timesHeard 5 = .ok (.iload_n 2, 1) := by decide +kernel
theorem d_X3_timesHeard_6 : decode cX3_timesHeard 6 = .ok (.invokestatic 67, 3) := by decide +kernel
theorem d_X3_timesHeard_9 : decode cX3_timesHeard 9 = .ok (.invokestatic 54, 3) := by decide +kernel
theorem d_X3_timesHeard_12 : decode cX3_timesHeard 12 = .ok (.ireturn, 1) := by decide +kernel
def t_X3_timesHeard_0 : List (Nat × QO) := [(0, o_al 0 1), (1, o_gf 3 6 4), (4, o_il 1 5), (5, o_il 2 6), (6, o_cS 1 12 2 2 9), (9, o_cS 1 97 2 2 12), (12, o_ir false)]
theorem ts_X3_timesHeard_0 (sx : QX) : ∀ q ∈ t_X3_timesHeard_0, q_Snd sx RX3 cX3_timesHeard 3 (some .int) q.1 q.2 := List.forall_mem_cons.mpr ⟨s_aload_n d_X3_timesHeard_0 rfl, List.forall_mem_cons.mpr ⟨s_gf d_X3_timesHeard_1 rfl (by decide) n_X3 in_X3 rfl k_1_129, List.forall_mem_cons.mpr ⟨s_iload_n d_X3_timesHeard_4 rfl, List.forall_mem_cons.mpr ⟨s_iload_n d_X3_timesHeard_5 rfl, List.forall_mem_cons.mpr ⟨s_cS rfl d_X3_timesHeard_6 k_2_199 k_2_96 k_1_3 k_2_97 ⟨by decide, by decide⟩ (by decide +kernel) (by decide), List.forall_mem_cons.mpr ⟨s_cN (host := "StoneApologies") rfl d_X3_timesHeard_9 (List.mem_of_getElem? (i := 10) rfl) k_2_57 k_1_1 k_2_58 ⟨by decide, by decide⟩ (by decide +kernel) (by decide), List.forall_mem_cons.mpr ⟨s_ir d_X3_timesHeard_12 rfl, fun _ h => absurd h List.not_mem_nil⟩⟩⟩⟩⟩⟩⟩
def t_X3_timesHeard (pc : Nat) : Option QO := q_look (t_X3_timesHeard_0) pc
theorem ts_X3_timesHeard (sx : QX) (pc : Nat) : ∀ o, t_X3_timesHeard pc = some o → q_Snd sx RX3 cX3_timesHeard 3 (some .int) pc o := by
  unfold t_X3_timesHeard
  exact q_look_all (ts_X3_timesHeard_0 sx)
theorem d_X3_worthOf_0 : decode cX3_worthOf 0 = .ok (.aload_n 0, 1) := by decide +kernel
theorem d_X3_worthOf_1 : decode cX3_worthOf 1 = .ok (.getfield 30, 3) := by decide +kernel
theorem d_X3_worthOf_4 : decode cX3_worthOf 4 = .ok (.getfield 71, 3) := by decide +kernel
theorem d_X3_worthOf_7 : decode cX3_worthOf 7 = .ok (.iload_n 1, 1) := by decide +kernel
theorem d_X3_worthOf_8 : decode cX3_worthOf 8 = .ok (.iload_n 2, 1) := by decide +kernel
theorem d_X3_worthOf_9 : decode cX3_worthOf 9 = .ok (.iload_n 3, 1) := by decide +kernel
theorem d_X3_worthOf_10 : decode cX3_worthOf 10 = .ok (.invokestatic 74, 3) := by decide +kernel
theorem d_X3_worthOf_13 : decode cX3_worthOf 13 = .ok (.invokestatic 54, 3) := by decide +kernel
theorem d_X3_worthOf_16 : decode cX3_worthOf 16 = .ok (.istore 4, 2) := by decide +kernel
theorem d_X3_worthOf_18 : decode cX3_worthOf 18 = .ok (.iconst 0, 1) := by decide +kernel
theorem d_X3_worthOf_19 : decode cX3_worthOf 19 = .ok (.iload 4, 2) := by decide +kernel
theorem d_X3_worthOf_21 : decode cX3_worthOf 21 = .ok (.aload_n 0, 1) := by decide +kernel
theorem d_X3_worthOf_22 : decode cX3_worthOf 22 = .ok (.getfield 24, 3) := by decide +kernel
theorem d_X3_worthOf_25 : decode cX3_worthOf 25 = .ok (.iload_n 2, 1) := by decide +kernel
theorem d_X3_worthOf_26 : decode cX3_worthOf 26 = .ok (.iload_n 3, 1) := by decide +kernel
theorem d_X3_worthOf_27 : decode cX3_worthOf 27 = .ok (.invokestatic 67, 3) := by decide +kernel
theorem d_X3_worthOf_30 : decode cX3_worthOf 30 = .ok (.invokestatic 54, 3) := by decide +kernel
theorem d_X3_worthOf_33 : decode cX3_worthOf 33 = .ok (.isub, 1) := by decide +kernel
theorem d_X3_worthOf_34 : decode cX3_worthOf 34 = .ok (.invokestatic 78, 3) := by decide +kernel
theorem d_X3_worthOf_37 : decode cX3_worthOf 37 = .ok (.ireturn, 1) := by decide +kernel
def t_X3_worthOf_0 : List (Nat × QO) := [(0, o_al 0 1), (1, o_gf 3 0 4), (4, o_gf 0 11 7), (7, o_il 1 8), (8, o_il 2 9), (9, o_il 3 10), (10, o_cS 1 13 3 3 13), (13, o_cS 1 97 2 2 16), (16, o_is 4 18), (18, o_k 0 19), (19, o_il 4 21), (21, o_al 0 22)]
theorem ts_X3_worthOf_0 (sx : QX) : ∀ q ∈ t_X3_worthOf_0, q_Snd sx RX3 cX3_worthOf 5 (some .int) q.1 q.2 := List.forall_mem_cons.mpr ⟨s_aload_n d_X3_worthOf_0 rfl, List.forall_mem_cons.mpr ⟨s_gf d_X3_worthOf_1 rfl (by decide) n_X3 in_X3 rfl k_1_113, List.forall_mem_cons.mpr ⟨s_gf d_X3_worthOf_4 rfl (by decide) n_X0 in_X0 rfl k_1_81, List.forall_mem_cons.mpr ⟨s_iload_n d_X3_worthOf_7 rfl, List.forall_mem_cons.mpr ⟨s_iload_n d_X3_worthOf_8 rfl, List.forall_mem_cons.mpr ⟨s_iload_n d_X3_worthOf_9 rfl, List.forall_mem_cons.mpr ⟨s_cS rfl d_X3_worthOf_10 k_2_222 k_2_99 k_1_3 k_2_100 ⟨by decide, by decide⟩ (by decide +kernel) (by decide), List.forall_mem_cons.mpr ⟨s_cN (host := "StoneApologies") rfl d_X3_worthOf_13 (List.mem_of_getElem? (i := 10) rfl) k_2_57 k_1_1 k_2_58 ⟨by decide, by decide⟩ (by decide +kernel) (by decide), List.forall_mem_cons.mpr ⟨s_istore d_X3_worthOf_16 (by decide), List.forall_mem_cons.mpr ⟨s_iconst d_X3_worthOf_18 rfl, List.forall_mem_cons.mpr ⟨s_iload d_X3_worthOf_19, List.forall_mem_cons.mpr ⟨s_aload_n d_X3_worthOf_21 rfl, fun _ h => absurd h List.not_mem_nil⟩⟩⟩⟩⟩⟩⟩⟩⟩⟩⟩⟩
def t_X3_worthOf_1 : List (Nat × QO) := [(22, o_gf 3 6 25), (25, o_il 2 26), (26, o_il 3 27), (27, o_cS 1 12 2 2 30), (30, o_cS 1 97 2 2 33), (33, o_b (fun x y => x - y) 34), (34, o_max 37), (37, o_ir false)]
theorem ts_X3_worthOf_1 (sx : QX) : ∀ q ∈ t_X3_worthOf_1, q_Snd sx RX3 cX3_worthOf 5 (some .int) q.1 q.2 := List.forall_mem_cons.mpr ⟨s_gf d_X3_worthOf_22 rfl (by decide) n_X3 in_X3 rfl k_1_129, List.forall_mem_cons.mpr ⟨s_iload_n d_X3_worthOf_25 rfl, List.forall_mem_cons.mpr ⟨s_iload_n d_X3_worthOf_26 rfl, List.forall_mem_cons.mpr ⟨s_cS rfl d_X3_worthOf_27 k_2_199 k_2_96 k_1_3 k_2_97 ⟨by decide, by decide⟩ (by decide +kernel) (by decide), List.forall_mem_cons.mpr ⟨s_cN (host := "StoneApologies") rfl d_X3_worthOf_30 (List.mem_of_getElem? (i := 10) rfl) k_2_57 k_1_1 k_2_58 ⟨by decide, by decide⟩ (by decide +kernel) (by decide), List.forall_mem_cons.mpr ⟨s_isub d_X3_worthOf_33, List.forall_mem_cons.mpr ⟨s_max d_X3_worthOf_34 k_2_223 k_2_224 k_1_13 k_2_225, List.forall_mem_cons.mpr ⟨s_ir d_X3_worthOf_37 rfl, fun _ h => absurd h List.not_mem_nil⟩⟩⟩⟩⟩⟩⟩⟩
def t_X3_worthOf (pc : Nat) : Option QO := cond (Nat.ble pc 21) (q_look (t_X3_worthOf_0) pc) (q_look (t_X3_worthOf_1) pc)
theorem ts_X3_worthOf (sx : QX) (pc : Nat) : ∀ o, t_X3_worthOf pc = some o → q_Snd sx RX3 cX3_worthOf 5 (some .int) pc o := by
  unfold t_X3_worthOf
  exact q_cb (q_look_all (ts_X3_worthOf_0 sx)) (q_look_all (ts_X3_worthOf_1 sx))
theorem d_X3_vowOf_0 : decode cX3_vowOf 0 = .ok (.aload_n 0, 1) := by decide +kernel
theorem d_X3_vowOf_1 : decode cX3_vowOf 1 = .ok (.getfield 27, 3) := by decide +kernel
theorem d_X3_vowOf_4 : decode cX3_vowOf 4 = .ok (.iload_n 1, 1) := by decide +kernel
theorem d_X3_vowOf_5 : decode cX3_vowOf 5 = .ok (.iload_n 2, 1) := by decide +kernel
theorem d_X3_vowOf_6 : decode cX3_vowOf 6 = .ok (.invokestatic 83, 3) := by decide +kernel
theorem d_X3_vowOf_9 : decode cX3_vowOf 9 = .ok (.invokestatic 54, 3) := by decide +kernel
theorem d_X3_vowOf_12 : decode cX3_vowOf 12 = .ok (.ireturn, 1) := by decide +kernel
def t_X3_vowOf_0 : List (Nat × QO) := [(0, o_al 0 1), (1, o_gf 3 7 4), (4, o_il 1 5), (5, o_il 2 6), (6, o_cS 1 11 2 2 9), (9, o_cS 1 97 2 2 12), (12, o_ir false)]
theorem ts_X3_vowOf_0 (sx : QX) : ∀ q ∈ t_X3_vowOf_0, q_Snd sx RX3 cX3_vowOf 3 (some .int) q.1 q.2 := List.forall_mem_cons.mpr ⟨s_aload_n d_X3_vowOf_0 rfl, List.forall_mem_cons.mpr ⟨s_gf d_X3_vowOf_1 rfl (by decide) n_X3 in_X3 rfl k_1_130, List.forall_mem_cons.mpr ⟨s_iload_n d_X3_vowOf_4 rfl, List.forall_mem_cons.mpr ⟨s_iload_n d_X3_vowOf_5 rfl, List.forall_mem_cons.mpr ⟨s_cS rfl d_X3_vowOf_6 k_2_209 k_2_84 k_1_3 k_2_85 ⟨by decide, by decide⟩ (by decide +kernel) (by decide), List.forall_mem_cons.mpr ⟨s_cN (host := "StoneApologies") rfl d_X3_vowOf_9 (List.mem_of_getElem? (i := 10) rfl) k_2_57 k_1_1 k_2_58 ⟨by decide, by decide⟩ (by decide +kernel) (by decide), List.forall_mem_cons.mpr ⟨s_ir d_X3_vowOf_12 rfl, fun _ h => absurd h List.not_mem_nil⟩⟩⟩⟩⟩⟩⟩
def t_X3_vowOf (pc : Nat) : Option QO := q_look (t_X3_vowOf_0) pc
theorem ts_X3_vowOf (sx : QX) (pc : Nat) : ∀ o, t_X3_vowOf pc = some o → q_Snd sx RX3 cX3_vowOf 3 (some .int) pc o := by
  unfold t_X3_vowOf
  exact q_look_all (ts_X3_vowOf_0 sx)
theorem d_X3_canSay_0 : decode cX3_canSay 0 = .ok (.aload_n 0, 1) := by decide +kernel
theorem d_X3_canSay_1 : decode cX3_canSay 1 = .ok (.getfield 21, 3) := by decide +kernel
theorem d_X3_canSay_4 : decode cX3_canSay 4 = .ok (.iload_n 1, 1) := by decide +kernel
theorem d_X3_canSay_5 : decode cX3_canSay 5 = .ok (.invokestatic 54, 3) := by decide +kernel
theorem d_X3_canSay_8 : decode cX3_canSay 8 = .ok (.ifCond .le 18, 3) := by decide +kernel
theorem d_X3_canSay_11 : decode cX3_canSay 11 = .ok (.aload_n 0, 1) := by decide +kernel
theorem d_X3_canSay_12 : decode cX3_canSay 12 = .ok (.getfield 15, 3) := by decide +kernel
theorem d_X3_canSay_15 : decode cX3_canSay 15 = .ok (.iload_n 2, 1) := by decide +kernel
theorem d_X3_canSay_16 : decode cX3_canSay 16 = .ok (.invokestatic 54, 3) := by decide +kernel
theorem d_X3_canSay_19 : decode cX3_canSay 19 = .ok (.ifCond .ne 7, 3) := by decide +kernel
theorem d_X3_canSay_22 : decode cX3_canSay 22 = .ok (.iconst 1, 1) := by decide +kernel
theorem d_X3_canSay_23 : decode cX3_canSay 23 = .ok (.goto 4, 3) := by decide +kernel
theorem d_X3_canSay_26 : decode cX3_canSay 26 = .ok (.iconst 0, 1) := by decide +kernel
theorem d_X3_canSay_27 : decode cX3_canSay 27 = .ok (.ireturn, 1) := by decide +kernel
def t_X3_canSay_0 : List (Nat × QO) := [(0, o_al 0 1), (1, o_gf 3 5 4), (4, o_il 1 5), (5, o_cS 1 97 2 2 8), (8, o_if (fun x => decide (x ≤ 0)) 26 11), (11, o_al 0 12), (12, o_gf 3 3 15), (15, o_il 2 16), (16, o_cS 1 97 2 2 19), (19, o_if (fun x => decide (x ≠ 0)) 26 22), (22, o_k 1 23), (23, o_goto 27)]
theorem ts_X3_canSay_0 (sx : QX) : ∀ q ∈ t_X3_canSay_0, q_Snd sx RX3 cX3_canSay 3 (some .boolean) q.1 q.2 := List.forall_mem_cons.mpr ⟨s_aload_n d_X3_canSay_0 rfl, List.forall_mem_cons.mpr ⟨s_gf d_X3_canSay_1 rfl (by decide) n_X3 in_X3 rfl k_1_126, List.forall_mem_cons.mpr ⟨s_iload_n d_X3_canSay_4 rfl, List.forall_mem_cons.mpr ⟨s_cN (host := "StoneApologies") rfl d_X3_canSay_5 (List.mem_of_getElem? (i := 10) rfl) k_2_57 k_1_1 k_2_58 ⟨by decide, by decide⟩ (by decide +kernel) (by decide), List.forall_mem_cons.mpr ⟨s_if_le d_X3_canSay_8 (by decide), List.forall_mem_cons.mpr ⟨s_aload_n d_X3_canSay_11 rfl, List.forall_mem_cons.mpr ⟨s_gf d_X3_canSay_12 rfl (by decide) n_X3 in_X3 rfl k_1_122, List.forall_mem_cons.mpr ⟨s_iload_n d_X3_canSay_15 rfl, List.forall_mem_cons.mpr ⟨s_cN (host := "StoneApologies") rfl d_X3_canSay_16 (List.mem_of_getElem? (i := 10) rfl) k_2_57 k_1_1 k_2_58 ⟨by decide, by decide⟩ (by decide +kernel) (by decide), List.forall_mem_cons.mpr ⟨s_if_ne d_X3_canSay_19 (by decide), List.forall_mem_cons.mpr ⟨s_iconst d_X3_canSay_22 rfl, List.forall_mem_cons.mpr ⟨s_goto d_X3_canSay_23 (by decide), fun _ h => absurd h List.not_mem_nil⟩⟩⟩⟩⟩⟩⟩⟩⟩⟩⟩⟩
def t_X3_canSay_1 : List (Nat × QO) := [(26, o_k 0 27), (27, o_ir true)]
theorem ts_X3_canSay_1 (sx : QX) : ∀ q ∈ t_X3_canSay_1, q_Snd sx RX3 cX3_canSay 3 (some .boolean) q.1 q.2 := List.forall_mem_cons.mpr ⟨s_iconst d_X3_canSay_26 rfl, List.forall_mem_cons.mpr ⟨s_zr d_X3_canSay_27 rfl, fun _ h => absurd h List.not_mem_nil⟩⟩
def t_X3_canSay (pc : Nat) : Option QO := cond (Nat.ble pc 23) (q_look (t_X3_canSay_0) pc) (q_look (t_X3_canSay_1) pc)
theorem ts_X3_canSay (sx : QX) (pc : Nat) : ∀ o, t_X3_canSay pc = some o → q_Snd sx RX3 cX3_canSay 3 (some .boolean) pc o := by
  unfold t_X3_canSay
  exact q_cb (q_look_all (ts_X3_canSay_0 sx)) (q_look_all (ts_X3_canSay_1 sx))
theorem d_X3_speak_0 : decode cX3_speak 0 = .ok (.aload_n 0, 1) := by decide +kernel
theorem d_X3_speak_1 : decode cX3_speak 1 = .ok (.iload_n 1, 1) := by decide +kernel
theorem d_X3_speak_2 : decode cX3_speak 2 = .ok (.iload_n 2, 1) := by decide +kernel
theorem d_X3_speak_3 : decode cX3_speak 3 = .ok (.iload_n 3, 1) := by decide +kernel
theorem d_X3_speak_4 : decode cX3_speak 4 = .ok (.invokevirtual 86, 3) := by decide +kernel
theorem d_X3_speak_7 : decode cX3_speak 7 = .ok (.istore 4, 2) := by decide +kernel
theorem d_X3_speak_9 : decode cX3_speak 9 = .ok (.aload_n 0, 1) := by decide +kernel
theorem d_X3_speak_10 : decode cX3_speak 10 = .ok (.getfield 21, 3) := by decide +kernel
theorem d_X3_speak_13 : decode cX3_speak 13 = .ok (.iload_n 1, 1) := by decide +kernel
theorem d_X3_speak_14 : decode cX3_speak 14 = .ok (.aload_n 0, 1) := by decide +kernel
theorem d_X3_speak_15 : decode cX3_speak 15 = .ok (.getfield 21, 3) := by decide +kernel
theorem d_X3_speak_18 : decode cX3_speak 18 = .ok (.iload_n 1, 1) := by decide +kernel
theorem d_X3_speak_19 : decode cX3_speak 19 = .ok (.invokestatic 54, 3) := by decide +kernel
theorem d_X3_speak_22 : decode cX3_speak 22 = .ok (.iconst 1, 1) := by decide +kernel
theorem d_X3_speak_23 : decode cX3_speak 23 = .ok (.isub, 1) := by decide +kernel
theorem d_X3_speak_24 : decode cX3_speak 24 = .ok (.invokestatic 89, 3) := by decide +kernel
theorem d_X3_speak_27 : decode cX3_speak 27 = .ok (.iload_n 2, 1) := by decide +kernel
theorem d_X3_speak_28 : decode cX3_speak 28 = .ok (.iconst 2, 1) := by decide +kernel
theorem d_X3_speak_29 : decode cX3_speak 29 = .ok (.isub, 1) := by decide +kernel
theorem d_X3_speak_30 : decode cX3_speak 30 = .ok (.istore 5, 2) := by decide +kernel
theorem d_X3_speak_32 : decode cX3_speak 32 = .ok (.iload 5, 2) := by decide +kernel
theorem d_X3_speak_34 : decode cX3_speak 34 = .ok (.iload_n 2, 1) := by decide +kernel
theorem d_X3_speak_35 : decode cX3_speak 35 = .ok (.iconst 2, 1) := by decide +kernel
theorem d_X3_speak_36 : decode cX3_speak 36 = .ok (.iadd, 1) := by decide +kernel
theorem d_X3_speak_37 : decode cX3_speak 37 = .ok (.if_icmp .gt 33, 3) := by decide +kernel
theorem d_X3_speak_40 : decode cX3_speak 40 = .ok (.iload 5, 2) := by decide +kernel
theorem d_X3_speak_42 : decode cX3_speak 42 = .ok (.iload_n 2, 1) := by decide +kernel
theorem d_X3_speak_43 : decode cX3_speak 43 = .ok (.if_icmp .eq 13, 3) := by decide +kernel
theorem d_X3_speak_46 : decode cX3_speak 46 = .ok (.aload_n 0, 1) := by decide +kernel
theorem d_X3_speak_47 : decode cX3_speak 47 = .ok (.iload_n 2, 1) := by decide +kernel
theorem d_X3_speak_48 : decode cX3_speak 48 = .ok (.iload 5, 2) := by decide +kernel
theorem d_X3_speak_50 : decode cX3_speak 50 = .ok (.invokevirtual 93, 3) := by decide +kernel
theorem d_X3_speak_53 : decode cX3_speak 53 = .ok (.ifCond .eq 11, 3) := by decide +kernel
theorem d_X3_speak_56 : decode cX3_speak 56 = .ok (.aload_n 0, 1) := by decide +kernel
theorem d_X3_speak_57 : decode cX3_speak 57 = .ok (.iload 5, 2) := by decide +kernel
theorem d_X3_speak_59 : decode cX3_speak 59 = .ok (.iload_n 3, 1) := by decide +kernel
theorem d_X3_speak_60 : decode cX3_speak 60 = .ok (.iconst 1, 1) := by decide +kernel
theorem d_X3_speak_61 : decode cX3_speak 61 = .ok (.invokevirtual 97, 3) := by decide +kernel
theorem d_X3_speak_64 : decode cX3_speak 64 = .ok (.iinc 5 1, 3) := by decide +kernel
theorem d_X3_speak_67 : decode cX3_speak 67 = .ok (.goto (-35), 3) := by decide +kernel
theorem d_X3_speak_70 : decode cX3_speak 70 = .ok (.aload_n 0, 1) := by decide +kernel
theorem d_X3_speak_71 : decode cX3_speak 71 = .ok (.iload_n 2, 1) := by decide +kernel
theorem d_X3_speak_72 : decode cX3_speak 72 = .ok (.iload 4, 2) := by decide +kernel
theorem d_X3_speak_74 : decode cX3_speak 74 = .ok (.invokevirtual 101, 3) := by decide +kernel
theorem d_X3_speak_77 : decode cX3_speak 77 = .ok (.return_, 1) := by decide +kernel
def t_X3_speak_0 : List (Nat × QO) := [(0, o_al 0 1), (1, o_il 1 2), (2, o_il 2 3), (3, o_il 3 4), (4, o_cV 1 3 26 5 4 7), (7, o_is 4 9), (9, o_al 0 10), (10, o_gf 3 5 13), (13, o_il 1 14), (14, o_al 0 15), (15, o_gf 3 5 18), (18, o_il 1 19)]
theorem ts_X3_speak_0 (sx : QX) : ∀ q ∈ t_X3_speak_0, q_Snd sx RX3 cX3_speak 6 none q.1 q.2 := List.forall_mem_cons.mpr ⟨s_aload_n d_X3_speak_0 rfl, List.forall_mem_cons.mpr ⟨s_iload_n d_X3_speak_1 rfl, List.forall_mem_cons.mpr ⟨s_iload_n d_X3_speak_2 rfl, List.forall_mem_cons.mpr ⟨s_iload_n d_X3_speak_3 rfl, List.forall_mem_cons.mpr ⟨s_cV (T := TX3) (N := 8) rfl d_X3_speak_4 rfl k_3_9 k_2_219 k_2_220 k_1_4 k_2_221 ⟨by decide, by decide⟩ (by decide +kernel) (by decide), List.forall_mem_cons.mpr ⟨s_istore d_X3_speak_7 (by decide), List.forall_mem_cons.mpr ⟨s_aload_n d_X3_speak_9 rfl, List.forall_mem_cons.mpr ⟨s_gf d_X3_speak_10 rfl (by decide) n_X3 in_X3 rfl k_1_126, List.forall_mem_cons.mpr ⟨s_iload_n d_X3_speak_13 rfl, List.forall_mem_cons.mpr ⟨s_aload_n d_X3_speak_14 rfl, List.forall_mem_cons.mpr ⟨s_gf d_X3_speak_15 rfl (by decide) n_X3 in_X3 rfl k_1_126, List.forall_mem_cons.mpr ⟨s_iload_n d_X3_speak_18 rfl, fun _ h => absurd h List.not_mem_nil⟩⟩⟩⟩⟩⟩⟩⟩⟩⟩⟩⟩
def t_X3_speak_1 : List (Nat × QO) := [(19, o_cS 1 97 2 2 22), (22, o_k 1 23), (23, o_b (fun x y => x - y) 24), (24, o_cS 0 98 3 3 27), (27, o_il 2 28), (28, o_k 2 29), (29, o_b (fun x y => x - y) 30), (30, o_is 5 32), (32, o_il 5 34), (34, o_il 2 35), (35, o_k 2 36), (36, o_b (fun x y => x + y) 37)]
theorem ts_X3_speak_1 (sx : QX) : ∀ q ∈ t_X3_speak_1, q_Snd sx RX3 cX3_speak 6 none q.1 q.2 := List.forall_mem_cons.mpr ⟨s_cN (host := "StoneApologies") rfl d_X3_speak_19 (List.mem_of_getElem? (i := 10) rfl) k_2_57 k_1_1 k_2_58 ⟨by decide, by decide⟩ (by decide +kernel) (by decide), List.forall_mem_cons.mpr ⟨s_iconst d_X3_speak_22 rfl, List.forall_mem_cons.mpr ⟨s_isub d_X3_speak_23, List.forall_mem_cons.mpr ⟨s_cN (host := "StoneApologies") rfl d_X3_speak_24 (List.mem_of_getElem? (i := 12) rfl) k_2_23 k_1_1 k_2_24 ⟨by decide, by decide⟩ (by decide +kernel) (by decide), List.forall_mem_cons.mpr ⟨s_iload_n d_X3_speak_27 rfl, List.forall_mem_cons.mpr ⟨s_iconst d_X3_speak_28 rfl, List.forall_mem_cons.mpr ⟨s_isub d_X3_speak_29, List.forall_mem_cons.mpr ⟨s_istore d_X3_speak_30 (by decide), List.forall_mem_cons.mpr ⟨s_iload d_X3_speak_32, List.forall_mem_cons.mpr ⟨s_iload_n d_X3_speak_34 rfl, List.forall_mem_cons.mpr ⟨s_iconst d_X3_speak_35 rfl, List.forall_mem_cons.mpr ⟨s_iadd d_X3_speak_36, fun _ h => absurd h List.not_mem_nil⟩⟩⟩⟩⟩⟩⟩⟩⟩⟩⟩⟩
def t_X3_speak_2 : List (Nat × QO) := [(37, o_ic (fun x y => decide (y < x)) 70 40), (40, o_il 5 42), (42, o_il 2 43), (43, o_ic (fun x y => decide (x = y)) 56 46), (46, o_al 0 47), (47, o_il 2 48), (48, o_il 5 50), (50, o_cV 1 3 31 4 3 53), (53, o_if (fun x => decide (x = 0)) 64 56), (56, o_al 0 57), (57, o_il 5 59), (59, o_il 3 60)]
theorem ts_X3_speak_2 (sx : QX) : ∀ q ∈ t_X3_speak_2, q_Snd sx RX3 cX3_speak 6 none q.1 q.2 := List.forall_mem_cons.mpr ⟨s_ic_gt d_X3_speak_37 (by decide), List.forall_mem_cons.mpr ⟨s_iload d_X3_speak_40, List.forall_mem_cons.mpr ⟨s_iload_n d_X3_speak_42 rfl, List.forall_mem_cons.mpr ⟨s_ic_eq d_X3_speak_43 (by decide), List.forall_mem_cons.mpr ⟨s_aload_n d_X3_speak_46 rfl, List.forall_mem_cons.mpr ⟨s_iload_n d_X3_speak_47 rfl, List.forall_mem_cons.mpr ⟨s_iload d_X3_speak_48, List.forall_mem_cons.mpr ⟨s_cV (T := TX3) (N := 8) rfl d_X3_speak_50 rfl k_3_11 k_3_13 k_0_11 k_1_4 k_3_14 ⟨by decide, by decide⟩ (by decide +kernel) (by decide), List.forall_mem_cons.mpr ⟨s_if_eq d_X3_speak_53 (by decide), List.forall_mem_cons.mpr ⟨s_aload_n d_X3_speak_56 rfl, List.forall_mem_cons.mpr ⟨s_iload d_X3_speak_57, List.forall_mem_cons.mpr ⟨s_iload_n d_X3_speak_59 rfl, fun _ h => absurd h List.not_mem_nil⟩⟩⟩⟩⟩⟩⟩⟩⟩⟩⟩⟩
def t_X3_speak_3 : List (Nat × QO) := [(60, o_k 1 61), (61, o_cV 0 3 30 5 4 64), (64, o_inc 5 1 67), (67, o_goto 32), (70, o_al 0 71), (71, o_il 2 72), (72, o_il 4 74), (74, o_cV 0 3 32 4 3 77), (77, o_vr)]
theorem ts_X3_speak_3 (sx : QX) : ∀ q ∈ t_X3_speak_3, q_Snd sx RX3 cX3_speak 6 none q.1 q.2 := List.forall_mem_cons.mpr ⟨s_iconst d_X3_speak_60 rfl, List.forall_mem_cons.mpr ⟨s_cV (T := TX3) (N := 8) rfl d_X3_speak_61 rfl k_3_15 k_3_16 k_3_17 k_1_4 k_3_18 ⟨by decide, by decide⟩ (by decide +kernel) (by decide), List.forall_mem_cons.mpr ⟨s_iinc d_X3_speak_64 rfl (by decide), List.forall_mem_cons.mpr ⟨s_goto d_X3_speak_67 (by decide), List.forall_mem_cons.mpr ⟨s_aload_n d_X3_speak_70 rfl, List.forall_mem_cons.mpr ⟨s_iload_n d_X3_speak_71 rfl, List.forall_mem_cons.mpr ⟨s_iload d_X3_speak_72, List.forall_mem_cons.mpr ⟨s_cV (T := TX3) (N := 8) rfl d_X3_speak_74 rfl k_3_19 k_3_21 k_0_12 k_1_4 k_3_22 ⟨by decide, by decide⟩ (by decide +kernel) (by decide), List.forall_mem_cons.mpr ⟨s_vr d_X3_speak_77 rfl, fun _ h => absurd h List.not_mem_nil⟩⟩⟩⟩⟩⟩⟩⟩⟩
def t_X3_speak (pc : Nat) : Option QO := cond (Nat.ble pc 36) (cond (Nat.ble pc 18) (q_look (t_X3_speak_0) pc) (q_look (t_X3_speak_1) pc)) (cond (Nat.ble pc 59) (q_look (t_X3_speak_2) pc) (q_look (t_X3_speak_3) pc))
theorem ts_X3_speak (sx : QX) (pc : Nat) : ∀ o, t_X3_speak pc = some o → q_Snd sx RX3 cX3_speak 6 none pc o := by
  unfold t_X3_speak
  exact q_cb (q_cb (q_look_all (ts_X3_speak_0 sx)) (q_look_all (ts_X3_speak_1 sx))) (q_cb (q_look_all (ts_X3_speak_2 sx)) (q_look_all (ts_X3_speak_3 sx)))
theorem d_X3_hear_0 : decode cX3_hear 0 = .ok (.iload_n 1, 1) := by decide +kernel
theorem d_X3_hear_1 : decode cX3_hear 1 = .ok (.iload_n 2, 1) := by decide +kernel
theorem d_X3_hear_2 : decode cX3_hear 2 = .ok (.invokestatic 67, 3) := by decide +kernel
theorem d_X3_hear_5 : decode cX3_hear 5 = .ok (.istore 4, 2) := by decide +kernel
theorem d_X3_hear_7 : decode cX3_hear 7 = .ok (.aload_n 0, 1) := by decide +kernel
theorem d_X3_hear_8 : decode cX3_hear 8 = .ok (.getfield 24, 3) := by decide +kernel
theorem d_X3_hear_11 : decode cX3_hear 11 = .ok (.iload 4, 2) := by decide +kernel
theorem d_X3_hear_13 : decode cX3_hear 13 = .ok (.aload_n 0, 1) := by decide +kernel
theorem d_X3_hear_14 : decode cX3_hear 14 = .ok (.getfield 24, 3) := by decide +kernel
theorem d_X3_hear_17 : decode cX3_hear 17 = .ok (.iload 4, 2) := by decide +kernel
theorem d_X3_hear_19 : decode cX3_hear 19 = .ok (.invokestatic 54, 3) := by decide +kernel
theorem d_X3_hear_22 : decode cX3_hear 22 = .ok (.iload_n 3, 1) := by decide +kernel
theorem d_X3_hear_23 : decode cX3_hear 23 = .ok (.iadd, 1) := by decide +kernel
theorem d_X3_hear_24 : decode cX3_hear 24 = .ok (.invokestatic 89, 3) := by decide +kernel
theorem d_X3_hear_27 : decode cX3_hear 27 = .ok (.return_, 1) := by decide +kernel
def t_X3_hear_0 : List (Nat × QO) := [(0, o_il 1 1), (1, o_il 2 2), (2, o_cS 1 12 2 2 5), (5, o_is 4 7), (7, o_al 0 8), (8, o_gf 3 6 11), (11, o_il 4 13), (13, o_al 0 14), (14, o_gf 3 6 17), (17, o_il 4 19), (19, o_cS 1 97 2 2 22), (22, o_il 3 23)]
theorem ts_X3_hear_0 (sx : QX) : ∀ q ∈ t_X3_hear_0, q_Snd sx RX3 cX3_hear 5 none q.1 q.2 := List.forall_mem_cons.mpr ⟨s_iload_n d_X3_hear_0 rfl, List.forall_mem_cons.mpr ⟨s_iload_n d_X3_hear_1 rfl, List.forall_mem_cons.mpr ⟨s_cS rfl d_X3_hear_2 k_2_199 k_2_96 k_1_3 k_2_97 ⟨by decide, by decide⟩ (by decide +kernel) (by decide), List.forall_mem_cons.mpr ⟨s_istore d_X3_hear_5 (by decide), List.forall_mem_cons.mpr ⟨s_aload_n d_X3_hear_7 rfl, List.forall_mem_cons.mpr ⟨s_gf d_X3_hear_8 rfl (by decide) n_X3 in_X3 rfl k_1_129, List.forall_mem_cons.mpr ⟨s_iload d_X3_hear_11, List.forall_mem_cons.mpr ⟨s_aload_n d_X3_hear_13 rfl, List.forall_mem_cons.mpr ⟨s_gf d_X3_hear_14 rfl (by decide) n_X3 in_X3 rfl k_1_129, List.forall_mem_cons.mpr ⟨s_iload d_X3_hear_17, List.forall_mem_cons.mpr ⟨s_cN (host := "StoneApologies") rfl d_X3_hear_19 (List.mem_of_getElem? (i := 10) rfl) k_2_57 k_1_1 k_2_58 ⟨by decide, by decide⟩ (by decide +kernel) (by decide), List.forall_mem_cons.mpr ⟨s_iload_n d_X3_hear_22 rfl, fun _ h => absurd h List.not_mem_nil⟩⟩⟩⟩⟩⟩⟩⟩⟩⟩⟩⟩
def t_X3_hear_1 : List (Nat × QO) := [(23, o_b (fun x y => x + y) 24), (24, o_cS 0 98 3 3 27), (27, o_vr)]
theorem ts_X3_hear_1 (sx : QX) : ∀ q ∈ t_X3_hear_1, q_Snd sx RX3 cX3_hear 5 none q.1 q.2 := List.forall_mem_cons.mpr ⟨s_iadd d_X3_hear_23, List.forall_mem_cons.mpr ⟨s_cN (host := "StoneApologies") rfl d_X3_hear_24 (List.mem_of_getElem? (i := 12) rfl) k_2_23 k_1_1 k_2_24 ⟨by decide, by decide⟩ (by decide +kernel) (by decide), List.forall_mem_cons.mpr ⟨s_vr d_X3_hear_27 rfl, fun _ h => absurd h List.not_mem_nil⟩⟩⟩
def t_X3_hear (pc : Nat) : Option QO := cond (Nat.ble pc 22) (q_look (t_X3_hear_0) pc) (q_look (t_X3_hear_1) pc)
theorem ts_X3_hear (sx : QX) (pc : Nat) : ∀ o, t_X3_hear pc = some o → q_Snd sx RX3 cX3_hear 5 none pc o := by
  unfold t_X3_hear
  exact q_cb (q_look_all (ts_X3_hear_0 sx)) (q_look_all (ts_X3_hear_1 sx))
theorem d_X3_hearsThrough_0 : decode cX3_hearsThrough 0 = .ok (.iload_n 2, 1) := by decide +kernel
theorem d_X3_hearsThrough_1 : decode cX3_hearsThrough 1 = .ok (.ifCond .lt 25, 3) := by decide +kernel
theorem d_X3_hearsThrough_4 : decode cX3_hearsThrough 4 = .ok (.iload_n 2, 1) := by decide +kernel
theorem d_X3_hearsThrough_5 : decode cX3_hearsThrough 5 = .ok (.aload_n 0, 1) := by decide +kernel
theorem d_X3_hearsThrough_6 : decode cX3_hearsThrough 6 = .ok (.getfield 30, 3) := by decide +kernel
theorem d_X3_hearsThrough_9 : decode cX3_hearsThrough 9 = .ok (.getfield 58, 3) := by decide +kernel
theorem d_X3_hearsThrough_12 : decode cX3_hearsThrough 12 = .ok (.if_icmp .ge 14, 3) := by decide +kernel
theorem d_X3_hearsThrough_15 : decode cX3_hearsThrough 15 = .ok (.aload_n 0, 1) := by decide +kernel
theorem d_X3_hearsThrough_16 : decode cX3_hearsThrough 16 = .ok (.getfield 15, 3) := by decide +kernel
theorem d_X3_hearsThrough_19 : decode cX3_hearsThrough 19 = .ok (.iload_n 2, 1) := by decide +kernel
theorem d_X3_hearsThrough_20 : decode cX3_hearsThrough 20 = .ok (.invokestatic 54, 3) := by decide +kernel
theorem d_X3_hearsThrough_23 : decode cX3_hearsThrough 23 = .ok (.ifCond .eq 5, 3) := by decide +kernel
theorem d_X3_hearsThrough_26 : decode cX3_hearsThrough 26 = .ok (.iconst 0, 1) := by decide +kernel
theorem d_X3_hearsThrough_27 : decode cX3_hearsThrough 27 = .ok (.ireturn, 1) := by decide +kernel
theorem d_X3_hearsThrough_28 : decode cX3_hearsThrough 28 = .ok (.iload_n 2, 1) := by decide +kernel
theorem d_X3_hearsThrough_29 : decode cX3_hearsThrough 29 = .ok (.iload_n 1, 1) := by decide +kernel
theorem d_X3_hearsThrough_30 : decode cX3_hearsThrough 30 = .ok (.iconst 1, 1) := by decide +kernel
theorem d_X3_hearsThrough_31 : decode cX3_hearsThrough 31 = .ok (.isub, 1) := by decide +kernel
theorem d_X3_hearsThrough_32 : decode cX3_hearsThrough 32 = .ok (.if_icmp .eq 10, 3) := by decide +kernel
theorem d_X3_hearsThrough_35 : decode cX3_hearsThrough 35 = .ok (.iload_n 2, 1) := by decide +kernel
theorem d_X3_hearsThrough_36 : decode cX3_hearsThrough 36 = .ok (.iload_n 1, 1) := by decide +kernel
theorem d_X3_hearsThrough_37 : decode cX3_hearsThrough 37 = .ok (.iconst 1, 1) := by decide +kernel
theorem d_X3_hearsThrough_38 : decode cX3_hearsThrough 38 = .ok (.iadd, 1) := by decide +kernel
theorem d_X3_hearsThrough_39 : decode cX3_hearsThrough 39 = .ok (.if_icmp .ne 7, 3) := by decide +kernel
theorem d_X3_hearsThrough_42 : decode cX3_hearsThrough 42 = .ok (.iconst 1, 1) := by decide +kernel
theorem d_X3_hearsThrough_43 : decode cX3_hearsThrough 43 = .ok (.goto 4, 3) := by decide +kernel
theorem d_X3_hearsThrough_46 : decode cX3_hearsThrough 46 = .ok (.iconst 0, 1) := by decide +kernel
theorem d_X3_hearsThrough_47 : decode cX3_hearsThrough 47 = .ok (.istore_n 3, 1) := by decide +kernel
theorem d_X3_hearsThrough_48 : decode cX3_hearsThrough 48 = .ok (.iload_n 3, 1) := by decide +kernel
theorem d_X3_hearsThrough_49 : decode cX3_hearsThrough 49 = .ok (.ifCond .ne 18, 3) := by decide +kernel
theorem d_X3_hearsThrough_52 : decode cX3_hearsThrough 52 = .ok (.aload_n 0, 1) := by decide +kernel
theorem d_X3_hearsThrough_53 : decode cX3_hearsThrough 53 = .ok (.getfield 15, 3) := by decide +kernel
theorem d_X3_hearsThrough_56 : decode cX3_hearsThrough 56 = .ok (.iload_n 1, 1) := by decide +kernel
theorem d_X3_hearsThrough_57 : decode cX3_hearsThrough 57 = .ok (.iload_n 2, 1) := by decide +kernel
theorem d_X3_hearsThrough_58 : decode cX3_hearsThrough 58 = .ok (.iadd, 1) := by decide +kernel
theorem d_X3_hearsThrough_59 : decode cX3_hearsThrough 59 = .ok (.iconst 2, 1) := by decide +kernel
theorem d_X3_hearsThrough_60 : decode cX3_hearsThrough 60 = .ok (.idiv, 1) := by decide +kernel
theorem d_X3_hearsThrough_61 : decode cX3_hearsThrough 61 = .ok (.invokestatic 54, 3) := by decide +kernel
theorem d_X3_hearsThrough_64 : decode cX3_hearsThrough 64 = .ok (.ifCond .ne 7, 3) := by decide +kernel
theorem d_X3_hearsThrough_67 : decode cX3_hearsThrough 67 = .ok (.iconst 1, 1) := by decide +kernel
theorem d_X3_hearsThrough_68 : decode cX3_hearsThrough 68 = .ok (.goto 4, 3) := by decide +kernel
theorem d_X3_hearsThrough_71 : decode cX3_hearsThrough 71 = .ok (.iconst 0, 1) := by decide +kernel
theorem d_X3_hearsThrough_72 : decode cX3_hearsThrough 72 = .ok (.ireturn, 1) := by decide +kernel
def t_X3_hearsThrough_0 : List (Nat × QO) := [(0, o_il 2 1), (1, o_if (fun x => decide (x < 0)) 26 4), (4, o_il 2 5), (5, o_al 0 6), (6, o_gf 3 0 9), (9, o_gf 0 0 12), (12, o_ic (fun x y => decide (y ≤ x)) 26 15), (15, o_al 0 16), (16, o_gf 3 3 19), (19, o_il 2 20), (20, o_cS 1 97 2 2 23), (23, o_if (fun x => decide (x = 0)) 28 26)]
theorem ts_X3_hearsThrough_0 (sx : QX) : ∀ q ∈ t_X3_hearsThrough_0, q_Snd sx RX3 cX3_hearsThrough 4 (some .boolean) q.1 q.2 := List.forall_mem_cons.mpr ⟨s_iload_n d_X3_hearsThrough_0 rfl, List.forall_mem_cons.mpr ⟨s_if_lt d_X3_hearsThrough_1 (by decide), List.forall_mem_cons.mpr ⟨s_iload_n d_X3_hearsThrough_4 rfl, List.forall_mem_cons.mpr ⟨s_aload_n d_X3_hearsThrough_5 rfl, List.forall_mem_cons.mpr ⟨s_gf d_X3_hearsThrough_6 rfl (by decide) n_X3 in_X3 rfl k_1_113, List.forall_mem_cons.mpr ⟨s_gf d_X3_hearsThrough_9 rfl (by decide) n_X0 in_X0 rfl k_1_52, List.forall_mem_cons.mpr ⟨s_ic_ge d_X3_hearsThrough_12 (by decide), List.forall_mem_cons.mpr ⟨s_aload_n d_X3_hearsThrough_15 rfl, List.forall_mem_cons.mpr ⟨s_gf d_X3_hearsThrough_16 rfl (by decide) n_X3 in_X3 rfl k_1_122, List.forall_mem_cons.mpr ⟨s_iload_n d_X3_hearsThrough_19 rfl, List.forall_mem_cons.mpr ⟨s_cN (host := "StoneApologies") rfl d_X3_hearsThrough_20 (List.mem_of_getElem? (i := 10) rfl) k_2_57 k_1_1 k_2_58 ⟨by decide, by decide⟩ (by decide +kernel) (by decide), List.forall_mem_cons.mpr ⟨s_if_eq d_X3_hearsThrough_23 (by decide), fun _ h => absurd h List.not_mem_nil⟩⟩⟩⟩⟩⟩⟩⟩⟩⟩⟩⟩
def t_X3_hearsThrough_1 : List (Nat × QO) := [(26, o_k 0 27), (27, o_ir true), (28, o_il 2 29), (29, o_il 1 30), (30, o_k 1 31), (31, o_b (fun x y => x - y) 32), (32, o_ic (fun x y => decide (x = y)) 42 35), (35, o_il 2 36), (36, o_il 1 37), (37, o_k 1 38), (38, o_b (fun x y => x + y) 39), (39, o_ic (fun x y => decide (x ≠ y)) 46 42)]
theorem ts_X3_hearsThrough_1 (sx : QX) : ∀ q ∈ t_X3_hearsThrough_1, q_Snd sx RX3 cX3_hearsThrough 4 (some .boolean) q.1 q.2 := List.forall_mem_cons.mpr ⟨s_iconst d_X3_hearsThrough_26 rfl, List.forall_mem_cons.mpr ⟨s_zr d_X3_hearsThrough_27 rfl, List.forall_mem_cons.mpr ⟨s_iload_n d_X3_hearsThrough_28 rfl, List.forall_mem_cons.mpr ⟨s_iload_n d_X3_hearsThrough_29 rfl, List.forall_mem_cons.mpr ⟨s_iconst d_X3_hearsThrough_30 rfl, List.forall_mem_cons.mpr ⟨s_isub d_X3_hearsThrough_31, List.forall_mem_cons.mpr ⟨s_ic_eq d_X3_hearsThrough_32 (by decide), List.forall_mem_cons.mpr ⟨s_iload_n d_X3_hearsThrough_35 rfl, List.forall_mem_cons.mpr ⟨s_iload_n d_X3_hearsThrough_36 rfl, List.forall_mem_cons.mpr ⟨s_iconst d_X3_hearsThrough_37 rfl, List.forall_mem_cons.mpr ⟨s_iadd d_X3_hearsThrough_38, List.forall_mem_cons.mpr ⟨s_ic_ne d_X3_hearsThrough_39 (by decide), fun _ h => absurd h List.not_mem_nil⟩⟩⟩⟩⟩⟩⟩⟩⟩⟩⟩⟩
def t_X3_hearsThrough_2 : List (Nat × QO) := [(42, o_k 1 43), (43, o_goto 47), (46, o_k 0 47), (47, o_is 3 48), (48, o_il 3 49), (49, o_if (fun x => decide (x ≠ 0)) 67 52), (52, o_al 0 53), (53, o_gf 3 3 56), (56, o_il 1 57), (57, o_il 2 58), (58, o_b (fun x y => x + y) 59), (59, o_k 2 60)]
theorem ts_X3_hearsThrough_2 (sx : QX) : ∀ q ∈ t_X3_hearsThrough_2, q_Snd sx RX3 cX3_hearsThrough 4 (some .boolean) q.1 q.2 := List.forall_mem_cons.mpr ⟨s_iconst d_X3_hearsThrough_42 rfl, List.forall_mem_cons.mpr ⟨s_goto d_X3_hearsThrough_43 (by decide), List.forall_mem_cons.mpr ⟨s_iconst d_X3_hearsThrough_46 rfl, List.forall_mem_cons.mpr ⟨s_istore_n d_X3_hearsThrough_47 rfl (by decide), List.forall_mem_cons.mpr ⟨s_iload_n d_X3_hearsThrough_48 rfl, List.forall_mem_cons.mpr ⟨s_if_ne d_X3_hearsThrough_49 (by decide), List.forall_mem_cons.mpr ⟨s_aload_n d_X3_hearsThrough_52 rfl, List.forall_mem_cons.mpr ⟨s_gf d_X3_hearsThrough_53 rfl (by decide) n_X3 in_X3 rfl k_1_122, List.forall_mem_cons.mpr ⟨s_iload_n d_X3_hearsThrough_56 rfl, List.forall_mem_cons.mpr ⟨s_iload_n d_X3_hearsThrough_57 rfl, List.forall_mem_cons.mpr ⟨s_iadd d_X3_hearsThrough_58, List.forall_mem_cons.mpr ⟨s_iconst d_X3_hearsThrough_59 rfl, fun _ h => absurd h List.not_mem_nil⟩⟩⟩⟩⟩⟩⟩⟩⟩⟩⟩⟩
def t_X3_hearsThrough_3 : List (Nat × QO) := [(60, o_bz (fun x y => x / y) 61), (61, o_cS 1 97 2 2 64), (64, o_if (fun x => decide (x ≠ 0)) 71 67), (67, o_k 1 68), (68, o_goto 72), (71, o_k 0 72), (72, o_ir true)]
theorem ts_X3_hearsThrough_3 (sx : QX) : ∀ q ∈ t_X3_hearsThrough_3, q_Snd sx RX3 cX3_hearsThrough 4 (some .boolean) q.1 q.2 := List.forall_mem_cons.mpr ⟨s_idiv d_X3_hearsThrough_60, List.forall_mem_cons.mpr ⟨s_cN (host := "StoneApologies") rfl d_X3_hearsThrough_61 (List.mem_of_getElem? (i := 10) rfl) k_2_57 k_1_1 k_2_58 ⟨by decide, by decide⟩ (by decide +kernel) (by decide), List.forall_mem_cons.mpr ⟨s_if_ne d_X3_hearsThrough_64 (by decide), List.forall_mem_cons.mpr ⟨s_iconst d_X3_hearsThrough_67 rfl, List.forall_mem_cons.mpr ⟨s_goto d_X3_hearsThrough_68 (by decide), List.forall_mem_cons.mpr ⟨s_iconst d_X3_hearsThrough_71 rfl, List.forall_mem_cons.mpr ⟨s_zr d_X3_hearsThrough_72 rfl, fun _ h => absurd h List.not_mem_nil⟩⟩⟩⟩⟩⟩⟩
def t_X3_hearsThrough (pc : Nat) : Option QO := cond (Nat.ble pc 39) (cond (Nat.ble pc 23) (q_look (t_X3_hearsThrough_0) pc) (q_look (t_X3_hearsThrough_1) pc)) (cond (Nat.ble pc 59) (q_look (t_X3_hearsThrough_2) pc) (q_look (t_X3_hearsThrough_3) pc))
theorem ts_X3_hearsThrough (sx : QX) (pc : Nat) : ∀ o, t_X3_hearsThrough pc = some o → q_Snd sx RX3 cX3_hearsThrough 4 (some .boolean) pc o := by
  unfold t_X3_hearsThrough
  exact q_cb (q_cb (q_look_all (ts_X3_hearsThrough_0 sx)) (q_look_all (ts_X3_hearsThrough_1 sx))) (q_cb (q_look_all (ts_X3_hearsThrough_2 sx)) (q_look_all (ts_X3_hearsThrough_3 sx)))
theorem d_X3_soften_0 : decode cX3_soften 0 = .ok (.aload_n 0, 1) := by decide +kernel
theorem d_X3_soften_1 : decode cX3_soften 1 = .ok (.getfield 9, 3) := by decide +kernel
theorem d_X3_soften_4 : decode cX3_soften 4 = .ok (.iload_n 1, 1) := by decide +kernel
theorem d_X3_soften_5 : decode cX3_soften 5 = .ok (.invokestatic 54, 3) := by decide +kernel
theorem d_X3_soften_8 : decode cX3_soften 8 = .ok (.iload_n 2, 1) := by decide +kernel
theorem d_X3_soften_9 : decode cX3_soften 9 = .ok (.iadd, 1) := by decide +kernel
theorem d_X3_soften_10 : decode cX3_soften 10 = .ok (.istore_n 3, 1) := by decide +kernel
theorem d_X3_soften_11 : decode cX3_soften 11 = .ok (.aload_n 0, 1) := by decide +kernel
theorem d_X3_soften_12 : decode cX3_soften 12 = .ok (.getfield 9, 3) := by decide +kernel
theorem d_X3_soften_15 : decode cX3_soften 15 = .ok (.iload_n 1, 1) := by decide +kernel
theorem d_X3_soften_16 : decode cX3_soften 16 = .ok (.iload_n 3, 1) := by decide +kernel
theorem d_X3_soften_17 : decode cX3_soften 17 = .ok (.invokestatic 89, 3) := by decide +kernel
theorem d_X3_soften_20 : decode cX3_soften 20 = .ok (.iload_n 3, 1) := by decide +kernel
theorem d_X3_soften_21 : decode cX3_soften 21 = .ok (.aload_n 0, 1) := by decide +kernel
theorem d_X3_soften_22 : decode cX3_soften 22 = .ok (.getfield 30, 3) := by decide +kernel
theorem d_X3_soften_25 : decode cX3_soften 25 = .ok (.getfield 64, 3) := by decide +kernel
theorem d_X3_soften_28 : decode cX3_soften 28 = .ok (.iload_n 1, 1) := by decide +kernel
theorem d_X3_soften_29 : decode cX3_soften 29 = .ok (.invokestatic 54, 3) := by decide +kernel
theorem d_X3_soften_32 : decode cX3_soften 32 = .ok (.if_icmp .lt 12, 3) := by decide +kernel
theorem d_X3_soften_35 : decode cX3_soften 35 = .ok (.aload_n 0, 1) := by decide +kernel
theorem d_X3_soften_36 : decode cX3_soften 36 = .ok (.getfield 15, 3) := by decide +kernel
theorem d_X3_soften_39 : decode cX3_soften 39 = .ok (.iload_n 1, 1) := by decide +kernel
theorem d_X3_soften_40 : decode cX3_soften 40 = .ok (.iconst 1, 1) := by decide +kernel
theorem d_X3_soften_41 : decode cX3_soften 41 = .ok (.invokestatic 89, 3) := by decide +kernel
theorem d_X3_soften_44 : decode cX3_soften 44 = .ok (.return_, 1) := by decide +kernel
def t_X3_soften_0 : List (Nat × QO) := [(0, o_al 0 1), (1, o_gf 3 2 4), (4, o_il 1 5), (5, o_cS 1 97 2 2 8), (8, o_il 2 9), (9, o_b (fun x y => x + y) 10), (10, o_is 3 11), (11, o_al 0 12), (12, o_gf 3 2 15), (15, o_il 1 16), (16, o_il 3 17), (17, o_cS 0 98 3 3 20)]
theorem ts_X3_soften_0 (sx : QX) : ∀ q ∈ t_X3_soften_0, q_Snd sx RX3 cX3_soften 4 none q.1 q.2 := List.forall_mem_cons.mpr ⟨s_aload_n d_X3_soften_0 rfl, List.forall_mem_cons.mpr ⟨s_gf d_X3_soften_1 rfl (by decide) n_X3 in_X3 rfl k_1_119, List.forall_mem_cons.mpr ⟨s_iload_n d_X3_soften_4 rfl, List.forall_mem_cons.mpr ⟨s_cN (host := "StoneApologies") rfl d_X3_soften_5 (List.mem_of_getElem? (i := 10) rfl) k_2_57 k_1_1 k_2_58 ⟨by decide, by decide⟩ (by decide +kernel) (by decide), List.forall_mem_cons.mpr ⟨s_iload_n d_X3_soften_8 rfl, List.forall_mem_cons.mpr ⟨s_iadd d_X3_soften_9, List.forall_mem_cons.mpr ⟨s_istore_n d_X3_soften_10 rfl (by decide), List.forall_mem_cons.mpr ⟨s_aload_n d_X3_soften_11 rfl, List.forall_mem_cons.mpr ⟨s_gf d_X3_soften_12 rfl (by decide) n_X3 in_X3 rfl k_1_119, List.forall_mem_cons.mpr ⟨s_iload_n d_X3_soften_15 rfl, List.forall_mem_cons.mpr ⟨s_iload_n d_X3_soften_16 rfl, List.forall_mem_cons.mpr ⟨s_cN (host := "StoneApologies") rfl d_X3_soften_17 (List.mem_of_getElem? (i := 12) rfl) k_2_23 k_1_1 k_2_24 ⟨by decide, by decide⟩ (by decide +kernel) (by decide), fun _ h => absurd h List.not_mem_nil⟩⟩⟩⟩⟩⟩⟩⟩⟩⟩⟩⟩
def t_X3_soften_1 : List (Nat × QO) := [(20, o_il 3 21), (21, o_al 0 22), (22, o_gf 3 0 25), (25, o_gf 0 5 28), (28, o_il 1 29), (29, o_cS 1 97 2 2 32), (32, o_ic (fun x y => decide (x < y)) 44 35), (35, o_al 0 36), (36, o_gf 3 3 39), (39, o_il 1 40), (40, o_k 1 41), (41, o_cS 0 98 3 3 44)]
theorem ts_X3_soften_1 (sx : QX) : ∀ q ∈ t_X3_soften_1, q_Snd sx RX3 cX3_soften 4 none q.1 q.2 := List.forall_mem_cons.mpr ⟨s_iload_n d_X3_soften_20 rfl, List.forall_mem_cons.mpr ⟨s_aload_n d_X3_soften_21 rfl, List.forall_mem_cons.mpr ⟨s_gf d_X3_soften_22 rfl (by decide) n_X3 in_X3 rfl k_1_113, List.forall_mem_cons.mpr ⟨s_gf d_X3_soften_25 rfl (by decide) n_X0 in_X0 rfl k_1_68, List.forall_mem_cons.mpr ⟨s_iload_n d_X3_soften_28 rfl, List.forall_mem_cons.mpr ⟨s_cN (host := "StoneApologies") rfl d_X3_soften_29 (List.mem_of_getElem? (i := 10) rfl) k_2_57 k_1_1 k_2_58 ⟨by decide, by decide⟩ (by decide +kernel) (by decide), List.forall_mem_cons.mpr ⟨s_ic_lt d_X3_soften_32 (by decide), List.forall_mem_cons.mpr ⟨s_aload_n d_X3_soften_35 rfl, List.forall_mem_cons.mpr ⟨s_gf d_X3_soften_36 rfl (by decide) n_X3 in_X3 rfl k_1_122, List.forall_mem_cons.mpr ⟨s_iload_n d_X3_soften_39 rfl, List.forall_mem_cons.mpr ⟨s_iconst d_X3_soften_40 rfl, List.forall_mem_cons.mpr ⟨s_cN (host := "StoneApologies") rfl d_X3_soften_41 (List.mem_of_getElem? (i := 12) rfl) k_2_23 k_1_1 k_2_24 ⟨by decide, by decide⟩ (by decide +kernel) (by decide), fun _ h => absurd h List.not_mem_nil⟩⟩⟩⟩⟩⟩⟩⟩⟩⟩⟩⟩
def t_X3_soften_2 : List (Nat × QO) := [(44, o_vr)]
theorem ts_X3_soften_2 (sx : QX) : ∀ q ∈ t_X3_soften_2, q_Snd sx RX3 cX3_soften 4 none q.1 q.2 := List.forall_mem_cons.mpr ⟨s_vr d_X3_soften_44 rfl, fun _ h => absurd h List.not_mem_nil⟩
def t_X3_soften (pc : Nat) : Option QO := cond (Nat.ble pc 17) (q_look (t_X3_soften_0) pc) (cond (Nat.ble pc 41) (q_look (t_X3_soften_1) pc) (q_look (t_X3_soften_2) pc))
theorem ts_X3_soften (sx : QX) (pc : Nat) : ∀ o, t_X3_soften pc = some o → q_Snd sx RX3 cX3_soften 4 none pc o := by
  unfold t_X3_soften
  exact q_cb (q_look_all (ts_X3_soften_0 sx)) (q_cb (q_look_all (ts_X3_soften_1 sx)) (q_look_all (ts_X3_soften_2 sx)))
theorem d_X3_vow_0 : decode cX3_vow 0 = .ok (.aload_n 0, 1) := by decide +kernel
theorem d_X3_vow_1 : decode cX3_vow 1 = .ok (.getfield 27, 3) := by decide +kernel
theorem d_X3_vow_4 : decode cX3_vow 4 = .ok (.iload_n 1, 1) := by decide +kernel
theorem d_X3_vow_5 : decode cX3_vow 5 = .ok (.iload_n 2, 1) := by decide +kernel
theorem d_X3_vow_6 : decode cX3_vow 6 = .ok (.invokestatic 83, 3) := by decide +kernel
theorem d_X3_vow_9 : decode cX3_vow 9 = .ok (.iload_n 3, 1) := by decide +kernel
theorem d_X3_vow_10 : decode cX3_vow 10 = .ok (.invokestatic 89, 3) := by decide +kernel
theorem d_X3_vow_13 : decode cX3_vow 13 = .ok (.return_, 1) := by decide +kernel
def t_X3_vow_0 : List (Nat × QO) := [(0, o_al 0 1), (1, o_gf 3 7 4), (4, o_il 1 5), (5, o_il 2 6), (6, o_cS 1 11 2 2 9), (9, o_il 3 10), (10, o_cS 0 98 3 3 13), (13, o_vr)]
theorem ts_X3_vow_0 (sx : QX) : ∀ q ∈ t_X3_vow_0, q_Snd sx RX3 cX3_vow 4 none q.1 q.2 := List.forall_mem_cons.mpr ⟨s_aload_n d_X3_vow_0 rfl, List.forall_mem_cons.mpr ⟨s_gf d_X3_vow_1 rfl (by decide) n_X3 in_X3 rfl k_1_130, List.forall_mem_cons.mpr ⟨s_iload_n d_X3_vow_4 rfl, List.forall_mem_cons.mpr ⟨s_iload_n d_X3_vow_5 rfl, List.forall_mem_cons.mpr ⟨s_cS rfl d_X3_vow_6 k_2_209 k_2_84 k_1_3 k_2_85 ⟨by decide, by decide⟩ (by decide +kernel) (by decide), List.forall_mem_cons.mpr ⟨s_iload_n d_X3_vow_9 rfl, List.forall_mem_cons.mpr ⟨s_cN (host := "StoneApologies") rfl d_X3_vow_10 (List.mem_of_getElem? (i := 12) rfl) k_2_23 k_1_1 k_2_24 ⟨by decide, by decide⟩ (by decide +kernel) (by decide), List.forall_mem_cons.mpr ⟨s_vr d_X3_vow_13 rfl, fun _ h => absurd h List.not_mem_nil⟩⟩⟩⟩⟩⟩⟩⟩
def t_X3_vow (pc : Nat) : Option QO := q_look (t_X3_vow_0) pc
theorem ts_X3_vow (sx : QX) (pc : Nat) : ∀ o, t_X3_vow pc = some o → q_Snd sx RX3 cX3_vow 4 none pc o := by
  unfold t_X3_vow
  exact q_look_all (ts_X3_vow_0 sx)
theorem d_X3_carryOff_0 : decode cX3_carryOff 0 = .ok (.aload_n 0, 1) := by decide +kernel
theorem d_X3_carryOff_1 : decode cX3_carryOff 1 = .ok (.getfield 15, 3) := by decide +kernel
theorem d_X3_carryOff_4 : decode cX3_carryOff 4 = .ok (.iload_n 1, 1) := by decide +kernel
theorem d_X3_carryOff_5 : decode cX3_carryOff 5 = .ok (.aload_n 0, 1) := by decide +kernel
theorem d_X3_carryOff_6 : decode cX3_carryOff 6 = .ok (.iload_n 1, 1) := by decide +kernel
theorem d_X3_carryOff_7 : decode cX3_carryOff 7 = .ok (.iload_n 2, 1) := by decide +kernel
theorem d_X3_carryOff_8 : decode cX3_carryOff 8 = .ok (.invokevirtual 105, 3) := by decide +kernel
theorem d_X3_carryOff_11 : decode cX3_carryOff 11 = .ok (.ifCond .eq 7, 3) := by decide +kernel
theorem d_X3_carryOff_14 : decode cX3_carryOff 14 = .ok (.iconst 3, 1) := by decide +kernel
theorem d_X3_carryOff_15 : decode cX3_carryOff 15 = .ok (.goto 4, 3) := by decide +kernel
theorem d_X3_carryOff_18 : decode cX3_carryOff 18 = .ok (.iconst 2, 1) := by decide +kernel
theorem d_X3_carryOff_19 : decode cX3_carryOff 19 = .ok (.invokestatic 89, 3) := by decide +kernel
theorem d_X3_carryOff_22 : decode cX3_carryOff 22 = .ok (.aload_n 0, 1) := by decide +kernel
theorem d_X3_carryOff_23 : decode cX3_carryOff 23 = .ok (.getfield 18, 3) := by decide +kernel
theorem d_X3_carryOff_26 : decode cX3_carryOff 26 = .ok (.iload_n 1, 1) := by decide +kernel
theorem d_X3_carryOff_27 : decode cX3_carryOff 27 = .ok (.iload_n 2, 1) := by decide +kernel
theorem d_X3_carryOff_28 : decode cX3_carryOff 28 = .ok (.invokestatic 89, 3) := by decide +kernel
theorem d_X3_carryOff_31 : decode cX3_carryOff 31 = .ok (.return_, 1) := by decide +kernel
def t_X3_carryOff_0 : List (Nat × QO) := [(0, o_al 0 1), (1, o_gf 3 3 4), (4, o_il 1 5), (5, o_al 0 6), (6, o_il 1 7), (7, o_il 2 8), (8, o_cV 1 3 35 4 3 11), (11, o_if (fun x => decide (x = 0)) 18 14), (14, o_k 3 15), (15, o_goto 19), (18, o_k 2 19), (19, o_cS 0 98 3 3 22)]
theorem ts_X3_carryOff_0 (sx : QX) : ∀ q ∈ t_X3_carryOff_0, q_Snd sx RX3 cX3_carryOff 3 none q.1 q.2 := List.forall_mem_cons.mpr ⟨s_aload_n d_X3_carryOff_0 rfl, List.forall_mem_cons.mpr ⟨s_gf d_X3_carryOff_1 rfl (by decide) n_X3 in_X3 rfl k_1_122, List.forall_mem_cons.mpr ⟨s_iload_n d_X3_carryOff_4 rfl, List.forall_mem_cons.mpr ⟨s_aload_n d_X3_carryOff_5 rfl, List.forall_mem_cons.mpr ⟨s_iload_n d_X3_carryOff_6 rfl, List.forall_mem_cons.mpr ⟨s_iload_n d_X3_carryOff_7 rfl, List.forall_mem_cons.mpr ⟨s_cV (T := TX3) (N := 8) rfl d_X3_carryOff_8 rfl k_3_44 k_3_45 k_3_46 k_1_4 k_3_47 ⟨by decide, by decide⟩ (by decide +kernel) (by decide), List.forall_mem_cons.mpr ⟨s_if_eq d_X3_carryOff_11 (by decide), List.forall_mem_cons.mpr ⟨s_iconst d_X3_carryOff_14 rfl, List.forall_mem_cons.mpr ⟨s_goto d_X3_carryOff_15 (by decide), List.forall_mem_cons.mpr ⟨s_iconst d_X3_carryOff_18 rfl, List.forall_mem_cons.mpr ⟨s_cN (host := "StoneApologies") rfl d_X3_carryOff_19 (List.mem_of_getElem? (i := 12) rfl) k_2_23 k_1_1 k_2_24 ⟨by decide, by decide⟩ (by decide +kernel) (by decide), fun _ h => absurd h List.not_mem_nil⟩⟩⟩⟩⟩⟩⟩⟩⟩⟩⟩⟩
def t_X3_carryOff_1 : List (Nat × QO) := [(22, o_al 0 23), (23, o_gf 3 4 26), (26, o_il 1 27), (27, o_il 2 28), (28, o_cS 0 98 3 3 31), (31, o_vr)]
theorem ts_X3_carryOff_1 (sx : QX) : ∀ q ∈ t_X3_carryOff_1, q_Snd sx RX3 cX3_carryOff 3 none q.1 q.2 := List.forall_mem_cons.mpr ⟨s_aload_n d_X3_carryOff_22 rfl, List.forall_mem_cons.mpr ⟨s_gf d_X3_carryOff_23 rfl (by decide) n_X3 in_X3 rfl k_1_124, List.forall_mem_cons.mpr ⟨s_iload_n d_X3_carryOff_26 rfl, List.forall_mem_cons.mpr ⟨s_iload_n d_X3_carryOff_27 rfl, List.forall_mem_cons.mpr ⟨s_cN (host := "StoneApologies") rfl d_X3_carryOff_28 (List.mem_of_getElem? (i := 12) rfl) k_2_23 k_1_1 k_2_24 ⟨by decide, by decide⟩ (by decide +kernel) (by decide), List.forall_mem_cons.mpr ⟨s_vr d_X3_carryOff_31 rfl, fun _ h => absurd h List.not_mem_nil⟩⟩⟩⟩⟩⟩
def t_X3_carryOff (pc : Nat) : Option QO := cond (Nat.ble pc 19) (q_look (t_X3_carryOff_0) pc) (q_look (t_X3_carryOff_1) pc)
theorem ts_X3_carryOff (sx : QX) (pc : Nat) : ∀ o, t_X3_carryOff pc = some o → q_Snd sx RX3 cX3_carryOff 3 none pc o := by
  unfold t_X3_carryOff
  exact q_cb (q_look_all (ts_X3_carryOff_0 sx)) (q_look_all (ts_X3_carryOff_1 sx))
theorem d_X3_wouldCrack_0 : decode cX3_wouldCrack 0 = .ok (.aload_n 0, 1) := by decide +kernel
theorem d_X3_wouldCrack_1 : decode cX3_wouldCrack 1 = .ok (.getfield 30, 3) := by decide +kernel
theorem d_X3_wouldCrack_4 : decode cX3_wouldCrack 4 = .ok (.getfield 108, 3) := by decide +kernel
theorem d_X3_wouldCrack_7 : decode cX3_wouldCrack 7 = .ok (.iload_n 1, 1) := by decide +kernel
theorem d_X3_wouldCrack_8 : decode cX3_wouldCrack 8 = .ok (.invokestatic 54, 3) := by decide +kernel
theorem d_X3_wouldCrack_11 : decode cX3_wouldCrack 11 = .ok (.iconst 3, 1) := by decide +kernel
theorem d_X3_wouldCrack_12 : decode cX3_wouldCrack 12 = .ok (.if_icmp .ne 5, 3) := by decide +kernel
theorem d_X3_wouldCrack_15 : decode cX3_wouldCrack 15 = .ok (.iconst 0, 1) := by decide +kernel
theorem d_X3_wouldCrack_16 : decode cX3_wouldCrack 16 = .ok (.ireturn, 1) := by decide +kernel
theorem d_X3_wouldCrack_17 : decode cX3_wouldCrack 17 = .ok (.iconst 0, 1) := by decide +kernel
theorem d_X3_wouldCrack_18 : decode cX3_wouldCrack 18 = .ok (.istore_n 3, 1) := by decide +kernel
theorem d_X3_wouldCrack_19 : decode cX3_wouldCrack 19 = .ok (.iload_n 3, 1) := by decide +kernel
theorem d_X3_wouldCrack_20 : decode cX3_wouldCrack 20 = .ok (.aload_n 0, 1) := by decide +kernel
theorem d_X3_wouldCrack_21 : decode cX3_wouldCrack 21 = .ok (.getfield 30, 3) := by decide +kernel
theorem d_X3_wouldCrack_24 : decode cX3_wouldCrack 24 = .ok (.getfield 61, 3) := by decide +kernel
theorem d_X3_wouldCrack_27 : decode cX3_wouldCrack 27 = .ok (.if_icmp .ge 21, 3) := by decide +kernel
theorem d_X3_wouldCrack_30 : decode cX3_wouldCrack 30 = .ok (.aload_n 0, 1) := by decide +kernel
theorem d_X3_wouldCrack_31 : decode cX3_wouldCrack 31 = .ok (.iload_n 3, 1) := by decide +kernel
theorem d_X3_wouldCrack_32 : decode cX3_wouldCrack 32 = .ok (.iload_n 1, 1) := by decide +kernel
theorem d_X3_wouldCrack_33 : decode cX3_wouldCrack 33 = .ok (.iload_n 2, 1) := by decide +kernel
theorem d_X3_wouldCrack_34 : decode cX3_wouldCrack 34 = .ok (.invokevirtual 111, 3) := by decide +kernel
theorem d_X3_wouldCrack_37 : decode cX3_wouldCrack 37 = .ok (.ifCond .eq 5, 3) := by decide +kernel
theorem d_X3_wouldCrack_40 : decode cX3_wouldCrack 40 = .ok (.iconst 1, 1) := by decide +kernel
theorem d_X3_wouldCrack_41 : decode cX3_wouldCrack 41 = .ok (.ireturn, 1) := by decide +kernel
theorem d_X3_wouldCrack_42 : decode cX3_wouldCrack 42 = .ok (.iinc 3 1, 3) := by decide +kernel
theorem d_X3_wouldCrack_45 : decode cX3_wouldCrack 45 = .ok (.goto (-26), 3) := by decide +kernel
theorem d_X3_wouldCrack_48 : decode cX3_wouldCrack 48 = .ok (.iconst 0, 1) := by decide +kernel
theorem d_X3_wouldCrack_49 : decode cX3_wouldCrack 49 = .ok (.ireturn, 1) := by decide +kernel
def t_X3_wouldCrack_0 : List (Nat × QO) := [(0, o_al 0 1), (1, o_gf 3 0 4), (4, o_gf 0 4 7), (7, o_il 1 8), (8, o_cS 1 97 2 2 11), (11, o_k 3 12), (12, o_ic (fun x y => decide (x ≠ y)) 17 15), (15, o_k 0 16), (16, o_ir true), (17, o_k 0 18), (18, o_is 3 19), (19, o_il 3 20)]
theorem ts_X3_wouldCrack_0 (sx : QX) : ∀ q ∈ t_X3_wouldCrack_0, q_Snd sx RX3 cX3_wouldCrack 4 (some .boolean) q.1 q.2 := List.forall_mem_cons.mpr ⟨s_aload_n d_X3_wouldCrack_0 rfl, List.forall_mem_cons.mpr ⟨s_gf d_X3_wouldCrack_1 rfl (by decide) n_X3 in_X3 rfl k_1_113, List.forall_mem_cons.mpr ⟨s_gf d_X3_wouldCrack_4 rfl (by decide) n_X0 in_X0 rfl k_1_65, List.forall_mem_cons.mpr ⟨s_iload_n d_X3_wouldCrack_7 rfl, List.forall_mem_cons.mpr ⟨s_cN (host := "StoneApologies") rfl d_X3_wouldCrack_8 (List.mem_of_getElem? (i := 10) rfl) k_2_57 k_1_1 k_2_58 ⟨by decide, by decide⟩ (by decide +kernel) (by decide), List.forall_mem_cons.mpr ⟨s_iconst d_X3_wouldCrack_11 rfl, List.forall_mem_cons.mpr ⟨s_ic_ne d_X3_wouldCrack_12 (by decide), List.forall_mem_cons.mpr ⟨s_iconst d_X3_wouldCrack_15 rfl, List.forall_mem_cons.mpr ⟨s_zr d_X3_wouldCrack_16 rfl, List.forall_mem_cons.mpr ⟨s_iconst d_X3_wouldCrack_17 rfl, List.forall_mem_cons.mpr ⟨s_istore_n d_X3_wouldCrack_18 rfl (by decide), List.forall_mem_cons.mpr ⟨s_iload_n d_X3_wouldCrack_19 rfl, fun _ h => absurd h List.not_mem_nil⟩⟩⟩⟩⟩⟩⟩⟩⟩⟩⟩⟩
def t_X3_wouldCrack_1 : List (Nat × QO) := [(20, o_al 0 21), (21, o_gf 3 0 24), (24, o_gf 0 2 27), (27, o_ic (fun x y => decide (y ≤ x)) 48 30), (30, o_al 0 31), (31, o_il 3 32), (32, o_il 1 33), (33, o_il 2 34), (34, o_cV 1 3 36 5 4 37), (37, o_if (fun x => decide (x = 0)) 42 40), (40, o_k 1 41), (41, o_ir true)]
theorem ts_X3_wouldCrack_1 (sx : QX) : ∀ q ∈ t_X3_wouldCrack_1, q_Snd sx RX3 cX3_wouldCrack 4 (some .boolean) q.1 q.2 := List.forall_mem_cons.mpr ⟨s_aload_n d_X3_wouldCrack_20 rfl, List.forall_mem_cons.mpr ⟨s_gf d_X3_wouldCrack_21 rfl (by decide) n_X3 in_X3 rfl k_1_113, List.forall_mem_cons.mpr ⟨s_gf d_X3_wouldCrack_24 rfl (by decide) n_X0 in_X0 rfl k_1_60, List.forall_mem_cons.mpr ⟨s_ic_ge d_X3_wouldCrack_27 (by decide), List.forall_mem_cons.mpr ⟨s_aload_n d_X3_wouldCrack_30 rfl, List.forall_mem_cons.mpr ⟨s_iload_n d_X3_wouldCrack_31 rfl, List.forall_mem_cons.mpr ⟨s_iload_n d_X3_wouldCrack_32 rfl, List.forall_mem_cons.mpr ⟨s_iload_n d_X3_wouldCrack_33 rfl, List.forall_mem_cons.mpr ⟨s_cV (T := TX3) (N := 8) rfl d_X3_wouldCrack_34 rfl k_3_48 k_3_50 k_0_13 k_1_4 k_3_51 ⟨by decide, by decide⟩ (by decide +kernel) (by decide), List.forall_mem_cons.mpr ⟨s_if_eq d_X3_wouldCrack_37 (by decide), List.forall_mem_cons.mpr ⟨s_iconst d_X3_wouldCrack_40 rfl, List.forall_mem_cons.mpr ⟨s_zr d_X3_wouldCrack_41 rfl, fun _ h => absurd h List.not_mem_nil⟩⟩⟩⟩⟩⟩⟩⟩⟩⟩⟩⟩
def t_X3_wouldCrack_2 : List (Nat × QO) := [(42, o_inc 3 1 45), (45, o_goto 19), (48, o_k 0 49), (49, o_ir true)]
theorem ts_X3_wouldCrack_2 (sx : QX) : ∀ q ∈ t_X3_wouldCrack_2, q_Snd sx RX3 cX3_wouldCrack 4 (some .boolean) q.1 q.2 := List.forall_mem_cons.mpr ⟨s_iinc d_X3_wouldCrack_42 rfl (by decide), List.forall_mem_cons.mpr ⟨s_goto d_X3_wouldCrack_45 (by decide), List.forall_mem_cons.mpr ⟨s_iconst d_X3_wouldCrack_48 rfl, List.forall_mem_cons.mpr ⟨s_zr d_X3_wouldCrack_49 rfl, fun _ h => absurd h List.not_mem_nil⟩⟩⟩⟩
def t_X3_wouldCrack (pc : Nat) : Option QO := cond (Nat.ble pc 19) (q_look (t_X3_wouldCrack_0) pc) (cond (Nat.ble pc 41) (q_look (t_X3_wouldCrack_1) pc) (q_look (t_X3_wouldCrack_2) pc))
theorem ts_X3_wouldCrack (sx : QX) (pc : Nat) : ∀ o, t_X3_wouldCrack pc = some o → q_Snd sx RX3 cX3_wouldCrack 4 (some .boolean) pc o := by
  unfold t_X3_wouldCrack
  exact q_cb (q_look_all (ts_X3_wouldCrack_0 sx)) (q_cb (q_look_all (ts_X3_wouldCrack_1 sx)) (q_look_all (ts_X3_wouldCrack_2 sx)))
theorem d_X3_belies_0 : decode cX3_belies 0 = .ok (.aload_n 0, 1) := by decide +kernel
theorem d_X3_belies_1 : decode cX3_belies 1 = .ok (.iload_n 1, 1) := by decide +kernel
theorem d_X3_belies_2 : decode cX3_belies 2 = .ok (.iload_n 2, 1) := by decide +kernel
theorem d_X3_belies_3 : decode cX3_belies 3 = .ok (.invokevirtual 115, 3) := by decide +kernel
theorem d_X3_belies_6 : decode cX3_belies 6 = .ok (.istore 4, 2) := by decide +kernel
theorem d_X3_belies_8 : decode cX3_belies 8 = .ok (.iload 4, 2) := by decide +kernel
theorem d_X3_belies_10 : decode cX3_belies 10 = .ok (.bipush (-4), 2) := by decide +kernel
theorem d_X3_belies_12 : decode cX3_belies 12 = .ok (.if_icmp .eq 13, 3) := by decide +kernel
theorem d_X3_belies_15 : decode cX3_belies 15 = .ok (.iload 4, 2) := by decide +kernel
theorem d_X3_belies_17 : decode cX3_belies 17 = .ok (.iload_n 3, 1) := by decide +kernel
theorem d_X3_belies_18 : decode cX3_belies 18 = .ok (.if_icmp .eq 7, 3) := by decide +kernel
theorem d_X3_belies_21 : decode cX3_belies 21 = .ok (.iconst 1, 1) := by decide +kernel
theorem d_X3_belies_22 : decode cX3_belies 22 = .ok (.goto 4, 3) := by decide +kernel
theorem d_X3_belies_25 : decode cX3_belies 25 = .ok (.iconst 0, 1) := by decide +kernel
theorem d_X3_belies_26 : decode cX3_belies 26 = .ok (.ireturn, 1) := by decide +kernel
def t_X3_belies_0 : List (Nat × QO) := [(0, o_al 0 1), (1, o_il 1 2), (2, o_il 2 3), (3, o_cV 1 3 27 3 3 6), (6, o_is 4 8), (8, o_il 4 10), (10, o_k (-4) 12), (12, o_ic (fun x y => decide (x = y)) 25 15), (15, o_il 4 17), (17, o_il 3 18), (18, o_ic (fun x y => decide (x = y)) 25 21), (21, o_k 1 22)]
theorem ts_X3_belies_0 (sx : QX) : ∀ q ∈ t_X3_belies_0, q_Snd sx RX3 cX3_belies 5 (some .boolean) q.1 q.2 := List.forall_mem_cons.mpr ⟨s_aload_n d_X3_belies_0 rfl, List.forall_mem_cons.mpr ⟨s_iload_n d_X3_belies_1 rfl, List.forall_mem_cons.mpr ⟨s_iload_n d_X3_belies_2 rfl, List.forall_mem_cons.mpr ⟨s_cV (T := TX3) (N := 8) rfl d_X3_belies_3 rfl k_3_52 k_2_206 k_2_207 k_1_4 k_2_208 ⟨by decide, by decide⟩ (by decide +kernel) (by decide), List.forall_mem_cons.mpr ⟨s_istore d_X3_belies_6 (by decide), List.forall_mem_cons.mpr ⟨s_iload d_X3_belies_8, List.forall_mem_cons.mpr ⟨s_bipush d_X3_belies_10 rfl, List.forall_mem_cons.mpr ⟨s_ic_eq d_X3_belies_12 (by decide), List.forall_mem_cons.mpr ⟨s_iload d_X3_belies_15, List.forall_mem_cons.mpr ⟨s_iload_n d_X3_belies_17 rfl, List.forall_mem_cons.mpr ⟨s_ic_eq d_X3_belies_18 (by decide), List.forall_mem_cons.mpr ⟨s_iconst d_X3_belies_21 rfl, fun _ h => absurd h List.not_mem_nil⟩⟩⟩⟩⟩⟩⟩⟩⟩⟩⟩⟩
def t_X3_belies_1 : List (Nat × QO) := [(22, o_goto 26), (25, o_k 0 26), (26, o_ir true)]
theorem ts_X3_belies_1 (sx : QX) : ∀ q ∈ t_X3_belies_1, q_Snd sx RX3 cX3_belies 5 (some .boolean) q.1 q.2 := List.forall_mem_cons.mpr ⟨s_goto d_X3_belies_22 (by decide), List.forall_mem_cons.mpr ⟨s_iconst d_X3_belies_25 rfl, List.forall_mem_cons.mpr ⟨s_zr d_X3_belies_26 rfl, fun _ h => absurd h List.not_mem_nil⟩⟩⟩
def t_X3_belies (pc : Nat) : Option QO := cond (Nat.ble pc 21) (q_look (t_X3_belies_0) pc) (q_look (t_X3_belies_1) pc)
theorem ts_X3_belies (sx : QX) (pc : Nat) : ∀ o, t_X3_belies pc = some o → q_Snd sx RX3 cX3_belies 5 (some .boolean) pc o := by
  unfold t_X3_belies
  exact q_cb (q_look_all (ts_X3_belies_0 sx)) (q_look_all (ts_X3_belies_1 sx))
theorem d_X3_night_0 : decode cX3_night 0 = .ok (.iconst 0, 1) := by decide +kernel
theorem d_X3_night_1 : decode cX3_night 1 = .ok (.istore_n 1, 1) := by decide +kernel
theorem d_X3_night_2 : decode cX3_night 2 = .ok (.iload_n 1, 1) := by decide +kernel
theorem d_X3_night_3 : decode cX3_night 3 = .ok (.aload_n 0, 1) := by decide +kernel
theorem d_X3_night_4 : decode cX3_night 4 = .ok (.getfield 30, 3) := by decide +kernel
theorem d_X3_night_7 : decode cX3_night 7 = .ok (.getfield 58, 3) := by decide +kernel
theorem d_X3_night_10 : decode cX3_night 10 = .ok (.if_icmp .ge 33, 3) := by decide +kernel
theorem d_X3_night_13 : decode cX3_night 13 = .ok (.aload_n 0, 1) := by decide +kernel
theorem d_X3_night_14 : decode cX3_night 14 = .ok (.getfield 15, 3) := by decide +kernel
theorem d_X3_night_17 : decode cX3_night 17 = .ok (.iload_n 1, 1) := by decide +kernel
theorem d_X3_night_18 : decode cX3_night 18 = .ok (.invokestatic 54, 3) := by decide +kernel
theorem d_X3_night_21 : decode cX3_night 21 = .ok (.ifCond .ne 16, 3) := by decide +kernel
theorem d_X3_night_24 : decode cX3_night 24 = .ok (.aload_n 0, 1) := by decide +kernel
theorem d_X3_night_25 : decode cX3_night 25 = .ok (.iload_n 1, 1) := by decide +kernel
theorem d_X3_night_26 : decode cX3_night 26 = .ok (.aload_n 0, 1) := by decide +kernel
theorem d_X3_night_27 : decode cX3_night 27 = .ok (.getfield 30, 3) := by decide +kernel
theorem d_X3_night_30 : decode cX3_night 30 = .ok (.iload_n 1, 1) := by decide +kernel
theorem d_X3_night_31 : decode cX3_night 31 = .ok (.invokevirtual 118, 3) := by decide +kernel
theorem d_X3_night_34 : decode cX3_night 34 = .ok (.invokevirtual 101, 3) := by decide +kernel
theorem d_X3_night_37 : decode cX3_night 37 = .ok (.iinc 1 1, 3) := by decide +kernel
theorem d_X3_night_40 : decode cX3_night 40 = .ok (.goto (-38), 3) := by decide +kernel
theorem d_X3_night_43 : decode cX3_night 43 = .ok (.aload_n 0, 1) := by decide +kernel
theorem d_X3_night_44 : decode cX3_night 44 = .ok (.getfield 30, 3) := by decide +kernel
theorem d_X3_night_47 : decode cX3_night 47 = .ok (.getfield 42, 3) := by decide +kernel
theorem d_X3_night_50 : decode cX3_night 50 = .ok (.aload_n 0, 1) := by decide +kernel
theorem d_X3_night_51 : decode cX3_night 51 = .ok (.getfield 21, 3) := by decide +kernel
theorem d_X3_night_54 : decode cX3_night 54 = .ok (.invokestatic 47, 3) := by decide +kernel
theorem d_X3_night_57 : decode cX3_night 57 = .ok (.aload_n 0, 1) := by decide +kernel
theorem d_X3_night_58 : decode cX3_night 58 = .ok (.dup, 1) := by decide +kernel
theorem d_X3_night_59 : decode cX3_night 59 = .ok (.getfield 34, 3) := by decide +kernel
theorem d_X3_night_62 : decode cX3_night 62 = .ok (.iconst 1, 1) := by decide +kernel
theorem d_X3_night_63 : decode cX3_night 63 = .ok (.iadd, 1) := by decide +kernel
theorem d_X3_night_64 : decode cX3_night 64 = .ok (.putfield 34, 3) := by decide +kernel
theorem d_X3_night_67 : decode cX3_night 67 = .ok (.return_, 1) := by decide +kernel
def t_X3_night_0 : List (Nat × QO) := [(0, o_k 0 1), (1, o_is 1 2), (2, o_il 1 3), (3, o_al 0 4), (4, o_gf 3 0 7), (7, o_gf 0 0 10), (10, o_ic (fun x y => decide (y ≤ x)) 43 13), (13, o_al 0 14), (14, o_gf 3 3 17), (17, o_il 1 18), (18, o_cS 1 97 2 2 21), (21, o_if (fun x => decide (x ≠ 0)) 37 24)]
theorem ts_X3_night_0 (sx : QX) : ∀ q ∈ t_X3_night_0, q_Snd sx RX3 cX3_night 2 none q.1 q.2 := List.forall_mem_cons.mpr ⟨s_iconst d_X3_night_0 rfl, List.forall_mem_cons.mpr ⟨s_istore_n d_X3_night_1 rfl (by decide), List.forall_mem_cons.mpr ⟨s_iload_n d_X3_night_2 rfl, List.forall_mem_cons.mpr ⟨s_aload_n d_X3_night_3 rfl, List.forall_mem_cons.mpr ⟨s_gf d_X3_night_4 rfl (by decide) n_X3 in_X3 rfl k_1_113, List.forall_mem_cons.mpr ⟨s_gf d_X3_night_7 rfl (by decide) n_X0 in_X0 rfl k_1_52, List.forall_mem_cons.mpr ⟨s_ic_ge d_X3_night_10 (by decide), List.forall_mem_cons.mpr ⟨s_aload_n d_X3_night_13 rfl, List.forall_mem_cons.mpr ⟨s_gf d_X3_night_14 rfl (by decide) n_X3 in_X3 rfl k_1_122, List.forall_mem_cons.mpr ⟨s_iload_n d_X3_night_17 rfl, List.forall_mem_cons.mpr ⟨s_cN (host := "StoneApologies") rfl d_X3_night_18 (List.mem_of_getElem? (i := 10) rfl) k_2_57 k_1_1 k_2_58 ⟨by decide, by decide⟩ (by decide +kernel) (by decide), List.forall_mem_cons.mpr ⟨s_if_ne d_X3_night_21 (by decide), fun _ h => absurd h List.not_mem_nil⟩⟩⟩⟩⟩⟩⟩⟩⟩⟩⟩⟩
def t_X3_night_1 : List (Nat × QO) := [(24, o_al 0 25), (25, o_il 1 26), (26, o_al 0 27), (27, o_gf 3 0 30), (30, o_il 1 31), (31, o_cV 1 0 10 2 2 34), (34, o_cV 0 3 32 4 3 37), (37, o_inc 1 1 40), (40, o_goto 2), (43, o_al 0 44), (44, o_gf 3 0 47), (47, o_gf 0 8 50)]
theorem ts_X3_night_1 (sx : QX) : ∀ q ∈ t_X3_night_1, q_Snd sx RX3 cX3_night 2 none q.1 q.2 := List.forall_mem_cons.mpr ⟨s_aload_n d_X3_night_24 rfl, List.forall_mem_cons.mpr ⟨s_iload_n d_X3_night_25 rfl, List.forall_mem_cons.mpr ⟨s_aload_n d_X3_night_26 rfl, List.forall_mem_cons.mpr ⟨s_gf d_X3_night_27 rfl (by decide) n_X3 in_X3 rfl k_1_113, List.forall_mem_cons.mpr ⟨s_iload_n d_X3_night_30 rfl, List.forall_mem_cons.mpr ⟨s_cV (T := TX0) (N := 12) rfl d_X3_night_31 rfl k_3_61 k_3_62 k_3_63 k_1_3 k_3_64 ⟨by decide, by decide⟩ (by decide +kernel) (by decide), List.forall_mem_cons.mpr ⟨s_cV (T := TX3) (N := 8) rfl d_X3_night_34 rfl k_3_19 k_3_21 k_0_12 k_1_4 k_3_22 ⟨by decide, by decide⟩ (by decide +kernel) (by decide), List.forall_mem_cons.mpr ⟨s_iinc d_X3_night_37 rfl (by decide), List.forall_mem_cons.mpr ⟨s_goto d_X3_night_40 (by decide), List.forall_mem_cons.mpr ⟨s_aload_n d_X3_night_43 rfl, List.forall_mem_cons.mpr ⟨s_gf d_X3_night_44 rfl (by decide) n_X3 in_X3 rfl k_1_113, List.forall_mem_cons.mpr ⟨s_gf d_X3_night_47 rfl (by decide) n_X0 in_X0 rfl k_1_74, fun _ h => absurd h List.not_mem_nil⟩⟩⟩⟩⟩⟩⟩⟩⟩⟩⟩⟩
def t_X3_night_2 : List (Nat × QO) := [(50, o_al 0 51), (51, o_gf 3 5 54), (54, o_cS 0 100 3 2 57), (57, o_al 0 58), (58, o_dup 59), (59, o_gf 3 1 62), (62, o_k 1 63), (63, o_b (fun x y => x + y) 64), (64, o_pf 3 1 67), (67, o_vr)]
theorem ts_X3_night_2 (sx : QX) : ∀ q ∈ t_X3_night_2, q_Snd sx RX3 cX3_night 2 none q.1 q.2 := List.forall_mem_cons.mpr ⟨s_aload_n d_X3_night_50 rfl, List.forall_mem_cons.mpr ⟨s_gf d_X3_night_51 rfl (by decide) n_X3 in_X3 rfl k_1_126, List.forall_mem_cons.mpr ⟨s_cN (host := "StoneApologies") rfl d_X3_night_54 (List.mem_of_getElem? (i := 9) rfl) k_2_111 k_1_1 k_2_112 ⟨by decide, by decide⟩ (by decide +kernel) (by decide), List.forall_mem_cons.mpr ⟨s_aload_n d_X3_night_57 rfl, List.forall_mem_cons.mpr ⟨s_dup d_X3_night_58, List.forall_mem_cons.mpr ⟨s_gf d_X3_night_59 rfl (by decide) n_X3 in_X3 rfl k_1_117, List.forall_mem_cons.mpr ⟨s_iconst d_X3_night_62 rfl, List.forall_mem_cons.mpr ⟨s_iadd d_X3_night_63, List.forall_mem_cons.mpr ⟨s_pf tyX3 d_X3_night_64 rfl (by decide) n_X3 in_X3 rfl k_1_117 tyX3_ok nmX3 rfl rfl, List.forall_mem_cons.mpr ⟨s_vr d_X3_night_67 rfl, fun _ h => absurd h List.not_mem_nil⟩⟩⟩⟩⟩⟩⟩⟩⟩⟩
def t_X3_night (pc : Nat) : Option QO := cond (Nat.ble pc 21) (q_look (t_X3_night_0) pc) (cond (Nat.ble pc 47) (q_look (t_X3_night_1) pc) (q_look (t_X3_night_2) pc))
theorem ts_X3_night (sx : QX) (pc : Nat) : ∀ o, t_X3_night pc = some o → q_Snd sx RX3 cX3_night 2 none pc o := by
  unfold t_X3_night
  exact q_cb (q_look_all (ts_X3_night_0 sx)) (q_cb (q_look_all (ts_X3_night_1 sx)) (q_look_all (ts_X3_night_2 sx)))
theorem d_X3_dearest_0 : decode cX3_dearest 0 = .ok (.iconst 0, 1) := by decide +kernel
theorem d_X3_dearest_1 : decode cX3_dearest 1 = .ok (.istore_n 2, 1) := by decide +kernel
theorem d_X3_dearest_2 : decode cX3_dearest 2 = .ok (.bipush (-4), 2) := by decide +kernel
theorem d_X3_dearest_4 : decode cX3_dearest 4 = .ok (.istore_n 3, 1) := by decide +kernel
theorem d_X3_dearest_5 : decode cX3_dearest 5 = .ok (.iconst 0, 1) := by decide +kernel
theorem d_X3_dearest_6 : decode cX3_dearest 6 = .ok (.istore 4, 2) := by decide +kernel
theorem d_X3_dearest_8 : decode cX3_dearest 8 = .ok (.iload 4, 2) := by decide +kernel
theorem d_X3_dearest_10 : decode cX3_dearest 10 = .ok (.aload_n 0, 1) := by decide +kernel
theorem d_X3_dearest_11 : decode cX3_dearest 11 = .ok (.getfield 30, 3) := by decide +kernel
theorem d_X3_dearest_14 : decode cX3_dearest 14 = .ok (.getfield 61, 3) := by decide +kernel
theorem d_X3_dearest_17 : decode cX3_dearest 17 = .ok (.if_icmp .ge 76, 3) := by decide +kernel
theorem d_X3_dearest_20 : decode cX3_dearest 20 = .ok (.aload_n 0, 1) := by decide +kernel
theorem d_X3_dearest_21 : decode cX3_dearest 21 = .ok (.getfield 21, 3) := by decide +kernel
theorem d_X3_dearest_24 : decode cX3_dearest 24 = .ok (.iload 4, 2) := by decide +kernel
theorem d_X3_dearest_26 : decode cX3_dearest 26 = .ok (.invokestatic 54, 3) := by decide +kernel
theorem d_X3_dearest_29 : decode cX3_dearest 29 = .ok (.ifCond .gt 6, 3) := by decide +kernel
theorem d_X3_dearest_32 : decode cX3_dearest 32 = .ok (.goto 55, 3) := by decide +kernel
theorem d_X3_dearest_35 : decode cX3_dearest 35 = .ok (.iconst 0, 1) := by decide +kernel
theorem d_X3_dearest_36 : decode cX3_dearest 36 = .ok (.istore 5, 2) := by decide +kernel
theorem d_X3_dearest_38 : decode cX3_dearest 38 = .ok (.iload 5, 2) := by decide +kernel
theorem d_X3_dearest_40 : decode cX3_dearest 40 = .ok (.aload_n 0, 1) := by decide +kernel
theorem d_X3_dearest_41 : decode cX3_dearest 41 = .ok (.getfield 30, 3) := by decide +kernel
theorem d_X3_dearest_44 : decode cX3_dearest 44 = .ok (.getfield 122, 3) := by decide +kernel
theorem d_X3_dearest_47 : decode cX3_dearest 47 = .ok (.if_icmp .ge 40, 3) := by decide +kernel
theorem d_X3_dearest_50 : decode cX3_dearest 50 = .ok (.aload_n 0, 1) := by decide +kernel
theorem d_X3_dearest_51 : decode cX3_dearest 51 = .ok (.iload 4, 2) := by decide +kernel
theorem d_X3_dearest_53 : decode cX3_dearest 53 = .ok (.iload_n 1, 1) := by decide +kernel
theorem d_X3_dearest_54 : decode cX3_dearest 54 = .ok (.iload 5, 2) := by decide +kernel
theorem d_X3_dearest_56 : decode cX3_dearest 56 = .ok (.invokevirtual 86, 3) := by decide +kernel
theorem d_X3_dearest_59 : decode cX3_dearest 59 = .ok (.istore 6, 2) := by decide +kernel
theorem d_X3_dearest_61 : decode cX3_dearest 61 = .ok (.iload 6, 2) := by decide +kernel
theorem d_X3_dearest_63 : decode cX3_dearest 63 = .ok (.iload_n 2, 1) := by decide +kernel
theorem d_X3_dearest_64 : decode cX3_dearest 64 = .ok (.if_icmp .gt 6, 3) := by decide +kernel
theorem d_X3_dearest_67 : decode cX3_dearest 67 = .ok (.goto 14, 3) := by decide +kernel
theorem d_X3_dearest_70 : decode cX3_dearest 70 = .ok (.iload 6, 2) := by decide +kernel
theorem d_X3_dearest_72 : decode cX3_dearest 72 = .ok (.istore_n 2, 1) := by decide +kernel
theorem d_X3_dearest_73 : decode cX3_dearest 73 = .ok (.iload 4, 2) := by decide +kernel
theorem d_X3_dearest_75 : decode cX3_dearest 75 = .ok (.iload 5, 2) := by decide +kernel
theorem d_X3_dearest_77 : decode cX3_dearest 77 = .ok (.invokestatic 125, 3) := by decide +kernel
theorem d_X3_dearest_80 : decode cX3_dearest 80 = .ok (.istore_n 3, 1) := by decide +kernel
theorem d_X3_dearest_81 : decode cX3_dearest 81 = .ok (.iinc 5 1, 3) := by decide +kernel
theorem d_X3_dearest_84 : decode cX3_dearest 84 = .ok (.goto (-46), 3) := by decide +kernel
theorem d_X3_dearest_87 : decode cX3_dearest 87 = .ok (.iinc 4 1, 3) := by decide +kernel
theorem d_X3_dearest_90 : decode cX3_dearest 90 = .ok (.goto (-82), 3) := by decide +kernel
theorem d_X3_dearest_93 : decode cX3_dearest 93 = .ok (.iload_n 3, 1) := by decide +kernel
theorem d_X3_dearest_94 : decode cX3_dearest 94 = .ok (.ireturn, 1) := by decide +kernel
def t_X3_dearest_0 : List (Nat × QO) := [(0, o_k 0 1), (1, o_is 2 2), (2, o_k (-4) 4), (4, o_is 3 5), (5, o_k 0 6), (6, o_is 4 8), (8, o_il 4 10), (10, o_al 0 11), (11, o_gf 3 0 14), (14, o_gf 0 2 17), (17, o_ic (fun x y => decide (y ≤ x)) 93 20), (20, o_al 0 21)]
theorem ts_X3_dearest_0 (sx : QX) : ∀ q ∈ t_X3_dearest_0, q_Snd sx RX3 cX3_dearest 7 (some .int) q.1 q.2 := List.forall_mem_cons.mpr ⟨s_iconst d_X3_dearest_0 rfl, List.forall_mem_cons.mpr ⟨s_istore_n d_X3_dearest_1 rfl (by decide), List.forall_mem_cons.mpr ⟨s_bipush d_X3_dearest_2 rfl, List.forall_mem_cons.mpr ⟨s_istore_n d_X3_dearest_4 rfl (by decide), List.forall_mem_cons.mpr ⟨s_iconst d_X3_dearest_5 rfl, List.forall_mem_cons.mpr ⟨s_istore d_X3_dearest_6 (by decide), List.forall_mem_cons.mpr ⟨s_iload d_X3_dearest_8, List.forall_mem_cons.mpr ⟨s_aload_n d_X3_dearest_10 rfl, List.forall_mem_cons.mpr ⟨s_gf d_X3_dearest_11 rfl (by decide) n_X3 in_X3 rfl k_1_113, List.forall_mem_cons.mpr ⟨s_gf d_X3_dearest_14 rfl (by decide) n_X0 in_X0 rfl k_1_60, List.forall_mem_cons.mpr ⟨s_ic_ge d_X3_dearest_17 (by decide), List.forall_mem_cons.mpr ⟨s_aload_n d_X3_dearest_20 rfl, fun _ h => absurd h List.not_mem_nil⟩⟩⟩⟩⟩⟩⟩⟩⟩⟩⟩⟩
def t_X3_dearest_1 : List (Nat × QO) := [(21, o_gf 3 5 24), (24, o_il 4 26), (26, o_cS 1 97 2 2 29), (29, o_if (fun x => decide (0 < x)) 35 32), (32, o_goto 87), (35, o_k 0 36), (36, o_is 5 38), (38, o_il 5 40), (40, o_al 0 41), (41, o_gf 3 0 44), (44, o_gf 0 1 47), (47, o_ic (fun x y => decide (y ≤ x)) 87 50)]
theorem ts_X3_dearest_1 (sx : QX) : ∀ q ∈ t_X3_dearest_1, q_Snd sx RX3 cX3_dearest 7 (some .int) q.1 q.2 := List.forall_mem_cons.mpr ⟨s_gf d_X3_dearest_21 rfl (by decide) n_X3 in_X3 rfl k_1_126, List.forall_mem_cons.mpr ⟨s_iload d_X3_dearest_24, List.forall_mem_cons.mpr ⟨s_cN (host := "StoneApologies") rfl d_X3_dearest_26 (List.mem_of_getElem? (i := 10) rfl) k_2_57 k_1_1 k_2_58 ⟨by decide, by decide⟩ (by decide +kernel) (by decide), List.forall_mem_cons.mpr ⟨s_if_gt d_X3_dearest_29 (by decide), List.forall_mem_cons.mpr ⟨s_goto d_X3_dearest_32 (by decide), List.forall_mem_cons.mpr ⟨s_iconst d_X3_dearest_35 rfl, List.forall_mem_cons.mpr ⟨s_istore d_X3_dearest_36 (by decide), List.forall_mem_cons.mpr ⟨s_iload d_X3_dearest_38, List.forall_mem_cons.mpr ⟨s_aload_n d_X3_dearest_40 rfl, List.forall_mem_cons.mpr ⟨s_gf d_X3_dearest_41 rfl (by decide) n_X3 in_X3 rfl k_1_113, List.forall_mem_cons.mpr ⟨s_gf d_X3_dearest_44 rfl (by decide) n_X0 in_X0 rfl k_1_56, List.forall_mem_cons.mpr ⟨s_ic_ge d_X3_dearest_47 (by decide), fun _ h => absurd h List.not_mem_nil⟩⟩⟩⟩⟩⟩⟩⟩⟩⟩⟩⟩
def t_X3_dearest_2 : List (Nat × QO) := [(50, o_al 0 51), (51, o_il 4 53), (53, o_il 1 54), (54, o_il 5 56), (56, o_cV 1 3 26 5 4 59), (59, o_is 6 61), (61, o_il 6 63), (63, o_il 2 64), (64, o_ic (fun x y => decide (y < x)) 70 67), (67, o_goto 81), (70, o_il 6 72), (72, o_is 2 73)]
theorem ts_X3_dearest_2 (sx : QX) : ∀ q ∈ t_X3_dearest_2, q_Snd sx RX3 cX3_dearest 7 (some .int) q.1 q.2 := List.forall_mem_cons.mpr ⟨s_aload_n d_X3_dearest_50 rfl, List.forall_mem_cons.mpr ⟨s_iload d_X3_dearest_51, List.forall_mem_cons.mpr ⟨s_iload_n d_X3_dearest_53 rfl, List.forall_mem_cons.mpr ⟨s_iload d_X3_dearest_54, List.forall_mem_cons.mpr ⟨s_cV (T := TX3) (N := 8) rfl d_X3_dearest_56 rfl k_3_9 k_2_219 k_2_220 k_1_4 k_2_221 ⟨by decide, by decide⟩ (by decide +kernel) (by decide), List.forall_mem_cons.mpr ⟨s_istore d_X3_dearest_59 (by decide), List.forall_mem_cons.mpr ⟨s_iload d_X3_dearest_61, List.forall_mem_cons.mpr ⟨s_iload_n d_X3_dearest_63 rfl, List.forall_mem_cons.mpr ⟨s_ic_gt d_X3_dearest_64 (by decide), List.forall_mem_cons.mpr ⟨s_goto d_X3_dearest_67 (by decide), List.forall_mem_cons.mpr ⟨s_iload d_X3_dearest_70, List.forall_mem_cons.mpr ⟨s_istore_n d_X3_dearest_72 rfl (by decide), fun _ h => absurd h List.not_mem_nil⟩⟩⟩⟩⟩⟩⟩⟩⟩⟩⟩⟩
def t_X3_dearest_3 : List (Nat × QO) := [(73, o_il 4 75), (75, o_il 5 77), (77, o_cS 1 92 2 2 80), (80, o_is 3 81), (81, o_inc 5 1 84), (84, o_goto 38), (87, o_inc 4 1 90), (90, o_goto 8), (93, o_il 3 94), (94, o_ir false)]
theorem ts_X3_dearest_3 (sx : QX) : ∀ q ∈ t_X3_dearest_3, q_Snd sx RX3 cX3_dearest 7 (some .int) q.1 q.2 := List.forall_mem_cons.mpr ⟨s_iload d_X3_dearest_73, List.forall_mem_cons.mpr ⟨s_iload d_X3_dearest_75, List.forall_mem_cons.mpr ⟨s_cN (host := "StoneApologies") rfl d_X3_dearest_77 (List.mem_of_getElem? (i := 13) rfl) k_3_94 k_1_1 k_3_95 ⟨by decide, by decide⟩ (by decide +kernel) (by decide), List.forall_mem_cons.mpr ⟨s_istore_n d_X3_dearest_80 rfl (by decide), List.forall_mem_cons.mpr ⟨s_iinc d_X3_dearest_81 rfl (by decide), List.forall_mem_cons.mpr ⟨s_goto d_X3_dearest_84 (by decide), List.forall_mem_cons.mpr ⟨s_iinc d_X3_dearest_87 rfl (by decide), List.forall_mem_cons.mpr ⟨s_goto d_X3_dearest_90 (by decide), List.forall_mem_cons.mpr ⟨s_iload_n d_X3_dearest_93 rfl, List.forall_mem_cons.mpr ⟨s_ir d_X3_dearest_94 rfl, fun _ h => absurd h List.not_mem_nil⟩⟩⟩⟩⟩⟩⟩⟩⟩⟩
def t_X3_dearest (pc : Nat) : Option QO := cond (Nat.ble pc 47) (cond (Nat.ble pc 20) (q_look (t_X3_dearest_0) pc) (q_look (t_X3_dearest_1) pc)) (cond (Nat.ble pc 72) (q_look (t_X3_dearest_2) pc) (q_look (t_X3_dearest_3) pc))
theorem ts_X3_dearest (sx : QX) (pc : Nat) : ∀ o, t_X3_dearest pc = some o → q_Snd sx RX3 cX3_dearest 7 (some .int) pc o := by
  unfold t_X3_dearest
  exact q_cb (q_cb (q_look_all (ts_X3_dearest_0 sx)) (q_look_all (ts_X3_dearest_1 sx))) (q_cb (q_look_all (ts_X3_dearest_2 sx)) (q_look_all (ts_X3_dearest_3 sx)))
theorem d_X3_askAll_0 : decode cX3_askAll 0 = .ok (.aload_n 0, 1) := by decide +kernel
theorem d_X3_askAll_1 : decode cX3_askAll 1 = .ok (.invokevirtual 128, 3) := by decide +kernel
theorem d_X3_askAll_4 : decode cX3_askAll 4 = .ok (.istore_n 2, 1) := by decide +kernel
theorem d_X3_askAll_5 : decode cX3_askAll 5 = .ok (.iload_n 2, 1) := by decide +kernel
theorem d_X3_askAll_6 : decode cX3_askAll 6 = .ok (.ifCond .le 44, 3) := by decide +kernel
theorem d_X3_askAll_9 : decode cX3_askAll 9 = .ok (.aload_n 0, 1) := by decide +kernel
theorem d_X3_askAll_10 : decode cX3_askAll 10 = .ok (.getfield 15, 3) := by decide +kernel
theorem d_X3_askAll_13 : decode cX3_askAll 13 = .ok (.iload_n 1, 1) := by decide +kernel
theorem d_X3_askAll_14 : decode cX3_askAll 14 = .ok (.invokestatic 54, 3) := by decide +kernel
theorem d_X3_askAll_17 : decode cX3_askAll 17 = .ok (.ifCond .ne 33, 3) := by decide +kernel
theorem d_X3_askAll_20 : decode cX3_askAll 20 = .ok (.aload_n 0, 1) := by decide +kernel
theorem d_X3_askAll_21 : decode cX3_askAll 21 = .ok (.iload_n 1, 1) := by decide +kernel
theorem d_X3_askAll_22 : decode cX3_askAll 22 = .ok (.invokevirtual 132, 3) := by decide +kernel
theorem d_X3_askAll_25 : decode cX3_askAll 25 = .ok (.istore_n 3, 1) := by decide +kernel
theorem d_X3_askAll_26 : decode cX3_askAll 26 = .ok (.iload_n 3, 1) := by decide +kernel
theorem d_X3_askAll_27 : decode cX3_askAll 27 = .ok (.ifCond .ge 4, 3) := by decide +kernel
theorem d_X3_askAll_30 : decode cX3_askAll 30 = .ok (.return_, 1) := by decide +kernel
theorem d_X3_askAll_31 : decode cX3_askAll 31 = .ok (.aload_n 0, 1) := by decide +kernel
theorem d_X3_askAll_32 : decode cX3_askAll 32 = .ok (.iload_n 3, 1) := by decide +kernel
theorem d_X3_askAll_33 : decode cX3_askAll 33 = .ok (.bipush 10, 2) := by decide +kernel
theorem d_X3_askAll_35 : decode cX3_askAll 35 = .ok (.idiv, 1) := by decide +kernel
theorem d_X3_askAll_36 : decode cX3_askAll 36 = .ok (.iload_n 1, 1) := by decide +kernel
theorem d_X3_askAll_37 : decode cX3_askAll 37 = .ok (.iload_n 3, 1) := by decide +kernel
theorem d_X3_askAll_38 : decode cX3_askAll 38 = .ok (.bipush 10, 2) := by decide +kernel
theorem d_X3_askAll_40 : decode cX3_askAll 40 = .ok (.irem, 1) := by decide +kernel
theorem d_X3_askAll_41 : decode cX3_askAll 41 = .ok (.invokevirtual 135, 3) := by decide +kernel
theorem d_X3_askAll_44 : decode cX3_askAll 44 = .ok (.iinc 2 (-1), 3) := by decide +kernel
theorem d_X3_askAll_47 : decode cX3_askAll 47 = .ok (.goto (-42), 3) := by decide +kernel
theorem d_X3_askAll_50 : decode cX3_askAll 50 = .ok (.return_, 1) := by decide +kernel
def t_X3_askAll_0 : List (Nat × QO) := [(0, o_al 0 1), (1, o_cV 1 3 23 3 1 4), (4, o_is 2 5), (5, o_il 2 6), (6, o_if (fun x => decide (x ≤ 0)) 50 9), (9, o_al 0 10), (10, o_gf 3 3 13), (13, o_il 1 14), (14, o_cS 1 97 2 2 17), (17, o_if (fun x => decide (x ≠ 0)) 50 20), (20, o_al 0 21), (21, o_il 1 22)]
theorem ts_X3_askAll_0 (sx : QX) : ∀ q ∈ t_X3_askAll_0, q_Snd sx RX3 cX3_askAll 4 none q.1 q.2 := List.forall_mem_cons.mpr ⟨s_aload_n d_X3_askAll_0 rfl, List.forall_mem_cons.mpr ⟨s_cV (T := TX3) (N := 8) rfl d_X3_askAll_1 rfl k_3_134 k_3_135 k_3_136 k_1_4 k_3_137 ⟨by decide, by decide⟩ (by decide +kernel) (by decide), List.forall_mem_cons.mpr ⟨s_istore_n d_X3_askAll_4 rfl (by decide), List.forall_mem_cons.mpr ⟨s_iload_n d_X3_askAll_5 rfl, List.forall_mem_cons.mpr ⟨s_if_le d_X3_askAll_6 (by decide), List.forall_mem_cons.mpr ⟨s_aload_n d_X3_askAll_9 rfl, List.forall_mem_cons.mpr ⟨s_gf d_X3_askAll_10 rfl (by decide) n_X3 in_X3 rfl k_1_122, List.forall_mem_cons.mpr ⟨s_iload_n d_X3_askAll_13 rfl, List.forall_mem_cons.mpr ⟨s_cN (host := "StoneApologies") rfl d_X3_askAll_14 (List.mem_of_getElem? (i := 10) rfl) k_2_57 k_1_1 k_2_58 ⟨by decide, by decide⟩ (by decide +kernel) (by decide), List.forall_mem_cons.mpr ⟨s_if_ne d_X3_askAll_17 (by decide), List.forall_mem_cons.mpr ⟨s_aload_n d_X3_askAll_20 rfl, List.forall_mem_cons.mpr ⟨s_iload_n d_X3_askAll_21 rfl, fun _ h => absurd h List.not_mem_nil⟩⟩⟩⟩⟩⟩⟩⟩⟩⟩⟩⟩
def t_X3_askAll_1 : List (Nat × QO) := [(22, o_cV 1 3 38 7 2 25), (25, o_is 3 26), (26, o_il 3 27), (27, o_if (fun x => decide (0 ≤ x)) 31 30), (30, o_vr), (31, o_al 0 32), (32, o_il 3 33), (33, o_k 10 35), (35, o_bz (fun x y => x / y) 36), (36, o_il 1 37), (37, o_il 3 38), (38, o_k 10 40)]
theorem ts_X3_askAll_1 (sx : QX) : ∀ q ∈ t_X3_askAll_1, q_Snd sx RX3 cX3_askAll 4 none q.1 q.2 := List.forall_mem_cons.mpr ⟨s_cV (T := TX3) (N := 8) rfl d_X3_askAll_22 rfl k_3_138 k_3_90 k_3_91 k_1_4 k_3_92 ⟨by decide, by decide⟩ (by decide +kernel) (by decide), List.forall_mem_cons.mpr ⟨s_istore_n d_X3_askAll_25 rfl (by decide), List.forall_mem_cons.mpr ⟨s_iload_n d_X3_askAll_26 rfl, List.forall_mem_cons.mpr ⟨s_if_ge d_X3_askAll_27 (by decide), List.forall_mem_cons.mpr ⟨s_vr d_X3_askAll_30 rfl, List.forall_mem_cons.mpr ⟨s_aload_n d_X3_askAll_31 rfl, List.forall_mem_cons.mpr ⟨s_iload_n d_X3_askAll_32 rfl, List.forall_mem_cons.mpr ⟨s_bipush d_X3_askAll_33 rfl, List.forall_mem_cons.mpr ⟨s_idiv d_X3_askAll_35, List.forall_mem_cons.mpr ⟨s_iload_n d_X3_askAll_36 rfl, List.forall_mem_cons.mpr ⟨s_iload_n d_X3_askAll_37 rfl, List.forall_mem_cons.mpr ⟨s_bipush d_X3_askAll_38 rfl, fun _ h => absurd h List.not_mem_nil⟩⟩⟩⟩⟩⟩⟩⟩⟩⟩⟩⟩
def t_X3_askAll_2 : List (Nat × QO) := [(40, o_bz (fun x y => x - x / y * y) 41), (41, o_cV 0 3 29 6 4 44), (44, o_inc 2 (-1) 47), (47, o_goto 5), (50, o_vr)]
theorem ts_X3_askAll_2 (sx : QX) : ∀ q ∈ t_X3_askAll_2, q_Snd sx RX3 cX3_askAll 4 none q.1 q.2 := List.forall_mem_cons.mpr ⟨s_irem d_X3_askAll_40, List.forall_mem_cons.mpr ⟨s_cV (T := TX3) (N := 8) rfl d_X3_askAll_41 rfl k_3_139 k_3_6 k_3_7 k_1_4 k_3_8 ⟨by decide, by decide⟩ (by decide +kernel) (by decide), List.forall_mem_cons.mpr ⟨s_iinc d_X3_askAll_44 rfl (by decide), List.forall_mem_cons.mpr ⟨s_goto d_X3_askAll_47 (by decide), List.forall_mem_cons.mpr ⟨s_vr d_X3_askAll_50 rfl, fun _ h => absurd h List.not_mem_nil⟩⟩⟩⟩⟩
def t_X3_askAll (pc : Nat) : Option QO := cond (Nat.ble pc 21) (q_look (t_X3_askAll_0) pc) (cond (Nat.ble pc 38) (q_look (t_X3_askAll_1) pc) (q_look (t_X3_askAll_2) pc))
theorem ts_X3_askAll (sx : QX) (pc : Nat) : ∀ o, t_X3_askAll pc = some o → q_Snd sx RX3 cX3_askAll 4 none pc o := by
  unfold t_X3_askAll
  exact q_cb (q_look_all (ts_X3_askAll_0 sx)) (q_cb (q_look_all (ts_X3_askAll_1 sx)) (q_look_all (ts_X3_askAll_2 sx)))
theorem d_X3_askOne_0 : decode cX3_askOne 0 = .ok (.aload_n 0, 1) := by decide +kernel
theorem d_X3_askOne_1 : decode cX3_askOne 1 = .ok (.getfield 21, 3) := by decide +kernel
theorem d_X3_askOne_4 : decode cX3_askOne 4 = .ok (.iload_n 2, 1) := by decide +kernel
theorem d_X3_askOne_5 : decode cX3_askOne 5 = .ok (.invokestatic 54, 3) := by decide +kernel
theorem d_X3_askOne_8 : decode cX3_askOne 8 = .ok (.istore_n 3, 1) := by decide +kernel
theorem d_X3_askOne_9 : decode cX3_askOne 9 = .ok (.iload_n 3, 1) := by decide +kernel
theorem d_X3_askOne_10 : decode cX3_askOne 10 = .ok (.ifCond .le 42, 3) := by decide +kernel
theorem d_X3_askOne_13 : decode cX3_askOne 13 = .ok (.aload_n 0, 1) := by decide +kernel
theorem d_X3_askOne_14 : decode cX3_askOne 14 = .ok (.getfield 15, 3) := by decide +kernel
theorem d_X3_askOne_17 : decode cX3_askOne 17 = .ok (.iload_n 1, 1) := by decide +kernel
theorem d_X3_askOne_18 : decode cX3_askOne 18 = .ok (.invokestatic 54, 3) := by decide +kernel
theorem d_X3_askOne_21 : decode cX3_askOne 21 = .ok (.ifCond .ne 31, 3) := by decide +kernel
theorem d_X3_askOne_24 : decode cX3_askOne 24 = .ok (.aload_n 0, 1) := by decide +kernel
theorem d_X3_askOne_25 : decode cX3_askOne 25 = .ok (.iload_n 2, 1) := by decide +kernel
theorem d_X3_askOne_26 : decode cX3_askOne 26 = .ok (.iload_n 1, 1) := by decide +kernel
theorem d_X3_askOne_27 : decode cX3_askOne 27 = .ok (.invokevirtual 138, 3) := by decide +kernel
theorem d_X3_askOne_30 : decode cX3_askOne 30 = .ok (.istore 4, 2) := by decide +kernel
theorem d_X3_askOne_32 : decode cX3_askOne 32 = .ok (.iload 4, 2) := by decide +kernel
theorem d_X3_askOne_34 : decode cX3_askOne 34 = .ok (.ifCond .ge 4, 3) := by decide +kernel
theorem d_X3_askOne_37 : decode cX3_askOne 37 = .ok (.return_, 1) := by decide +kernel
theorem d_X3_askOne_38 : decode cX3_askOne 38 = .ok (.aload_n 0, 1) := by decide +kernel
theorem d_X3_askOne_39 : decode cX3_askOne 39 = .ok (.iload_n 2, 1) := by decide +kernel
theorem d_X3_askOne_40 : decode cX3_askOne 40 = .ok (.iload_n 1, 1) := by decide +kernel
theorem d_X3_askOne_41 : decode cX3_askOne 41 = .ok (.iload 4, 2) := by decide +kernel
theorem d_X3_askOne_43 : decode cX3_askOne 43 = .ok (.invokevirtual 135, 3) := by decide +kernel
theorem d_X3_askOne_46 : decode cX3_askOne 46 = .ok (.iinc 3 (-1), 3) := by decide +kernel
theorem d_X3_askOne_49 : decode cX3_askOne 49 = .ok (.goto (-40), 3) := by decide +kernel
theorem d_X3_askOne_52 : decode cX3_askOne 52 = .ok (.return_, 1) := by decide +kernel
def t_X3_askOne_0 : List (Nat × QO) := [(0, o_al 0 1), (1, o_gf 3 5 4), (4, o_il 2 5), (5, o_cS 1 97 2 2 8), (8, o_is 3 9), (9, o_il 3 10), (10, o_if (fun x => decide (x ≤ 0)) 52 13), (13, o_al 0 14), (14, o_gf 3 3 17), (17, o_il 1 18), (18, o_cS 1 97 2 2 21), (21, o_if (fun x => decide (x ≠ 0)) 52 24)]
theorem ts_X3_askOne_0 (sx : QX) : ∀ q ∈ t_X3_askOne_0, q_Snd sx RX3 cX3_askOne 5 none q.1 q.2 := List.forall_mem_cons.mpr ⟨s_aload_n d_X3_askOne_0 rfl, List.forall_mem_cons.mpr ⟨s_gf d_X3_askOne_1 rfl (by decide) n_X3 in_X3 rfl k_1_126, List.forall_mem_cons.mpr ⟨s_iload_n d_X3_askOne_4 rfl, List.forall_mem_cons.mpr ⟨s_cN (host := "StoneApologies") rfl d_X3_askOne_5 (List.mem_of_getElem? (i := 10) rfl) k_2_57 k_1_1 k_2_58 ⟨by decide, by decide⟩ (by decide +kernel) (by decide), List.forall_mem_cons.mpr ⟨s_istore_n d_X3_askOne_8 rfl (by decide), List.forall_mem_cons.mpr ⟨s_iload_n d_X3_askOne_9 rfl, List.forall_mem_cons.mpr ⟨s_if_le d_X3_askOne_10 (by decide), List.forall_mem_cons.mpr ⟨s_aload_n d_X3_askOne_13 rfl, List.forall_mem_cons.mpr ⟨s_gf d_X3_askOne_14 rfl (by decide) n_X3 in_X3 rfl k_1_122, List.forall_mem_cons.mpr ⟨s_iload_n d_X3_askOne_17 rfl, List.forall_mem_cons.mpr ⟨s_cN (host := "StoneApologies") rfl d_X3_askOne_18 (List.mem_of_getElem? (i := 10) rfl) k_2_57 k_1_1 k_2_58 ⟨by decide, by decide⟩ (by decide +kernel) (by decide), List.forall_mem_cons.mpr ⟨s_if_ne d_X3_askOne_21 (by decide), fun _ h => absurd h List.not_mem_nil⟩⟩⟩⟩⟩⟩⟩⟩⟩⟩⟩⟩
def t_X3_askOne_1 : List (Nat × QO) := [(24, o_al 0 25), (25, o_il 2 26), (26, o_il 1 27), (27, o_cV 1 3 41 7 3 30), (30, o_is 4 32), (32, o_il 4 34), (34, o_if (fun x => decide (0 ≤ x)) 38 37), (37, o_vr), (38, o_al 0 39), (39, o_il 2 40), (40, o_il 1 41), (41, o_il 4 43)]
theorem ts_X3_askOne_1 (sx : QX) : ∀ q ∈ t_X3_askOne_1, q_Snd sx RX3 cX3_askOne 5 none q.1 q.2 := List.forall_mem_cons.mpr ⟨s_aload_n d_X3_askOne_24 rfl, List.forall_mem_cons.mpr ⟨s_iload_n d_X3_askOne_25 rfl, List.forall_mem_cons.mpr ⟨s_iload_n d_X3_askOne_26 rfl, List.forall_mem_cons.mpr ⟨s_cV (T := TX3) (N := 8) rfl d_X3_askOne_27 rfl k_3_148 k_3_150 k_0_15 k_1_4 k_3_151 ⟨by decide, by decide⟩ (by decide +kernel) (by decide), List.forall_mem_cons.mpr ⟨s_istore d_X3_askOne_30 (by decide), List.forall_mem_cons.mpr ⟨s_iload d_X3_askOne_32, List.forall_mem_cons.mpr ⟨s_if_ge d_X3_askOne_34 (by decide), List.forall_mem_cons.mpr ⟨s_vr d_X3_askOne_37 rfl, List.forall_mem_cons.mpr ⟨s_aload_n d_X3_askOne_38 rfl, List.forall_mem_cons.mpr ⟨s_iload_n d_X3_askOne_39 rfl, List.forall_mem_cons.mpr ⟨s_iload_n d_X3_askOne_40 rfl, List.forall_mem_cons.mpr ⟨s_iload d_X3_askOne_41, fun _ h => absurd h List.not_mem_nil⟩⟩⟩⟩⟩⟩⟩⟩⟩⟩⟩⟩
def t_X3_askOne_2 : List (Nat × QO) := [(43, o_cV 0 3 29 6 4 46), (46, o_inc 3 (-1) 49), (49, o_goto 9), (52, o_vr)]
theorem ts_X3_askOne_2 (sx : QX) : ∀ q ∈ t_X3_askOne_2, q_Snd sx RX3 cX3_askOne 5 none q.1 q.2 := List.forall_mem_cons.mpr ⟨s_cV (T := TX3) (N := 8) rfl d_X3_askOne_43 rfl k_3_139 k_3_6 k_3_7 k_1_4 k_3_8 ⟨by decide, by decide⟩ (by decide +kernel) (by decide), List.forall_mem_cons.mpr ⟨s_iinc d_X3_askOne_46 rfl (by decide), List.forall_mem_cons.mpr ⟨s_goto d_X3_askOne_49 (by decide), List.forall_mem_cons.mpr ⟨s_vr d_X3_askOne_52 rfl, fun _ h => absurd h List.not_mem_nil⟩⟩⟩⟩
def t_X3_askOne (pc : Nat) : Option QO := cond (Nat.ble pc 21) (q_look (t_X3_askOne_0) pc) (cond (Nat.ble pc 41) (q_look (t_X3_askOne_1) pc) (q_look (t_X3_askOne_2) pc))
theorem ts_X3_askOne (sx : QX) (pc : Nat) : ∀ o, t_X3_askOne pc = some o → q_Snd sx RX3 cX3_askOne 5 none pc o := by
  unfold t_X3_askOne
  exact q_cb (q_look_all (ts_X3_askOne_0 sx)) (q_cb (q_look_all (ts_X3_askOne_1 sx)) (q_look_all (ts_X3_askOne_2 sx)))
theorem d_X3_dearestWord_0 : decode cX3_dearestWord 0 = .ok (.iconst 0, 1) := by decide +kernel
theorem d_X3_dearestWord_1 : decode cX3_dearestWord 1 = .ok (.istore_n 3, 1) := by decide +kernel
theorem d_X3_dearestWord_2 : decode cX3_dearestWord 2 = .ok (.bipush (-4), 2) := by decide +kernel
theorem d_X3_dearestWord_4 : decode cX3_dearestWord 4 = .ok (.istore 4, 2) := by decide +kernel
theorem d_X3_dearestWord_6 : decode cX3_dearestWord 6 = .ok (.iconst 0, 1) := by decide +kernel
theorem d_X3_dearestWord_7 : decode cX3_dearestWord 7 = .ok (.istore 5, 2) := by decide +kernel
theorem d_X3_dearestWord_9 : decode cX3_dearestWord 9 = .ok (.iload 5, 2) := by decide +kernel
theorem d_X3_dearestWord_11 : decode cX3_dearestWord 11 = .ok (.aload_n 0, 1) := by decide +kernel
theorem d_X3_dearestWord_12 : decode cX3_dearestWord 12 = .ok (.getfield 30, 3) := by decide +kernel
theorem d_X3_dearestWord_15 : decode cX3_dearestWord 15 = .ok (.getfield 122, 3) := by decide +kernel
theorem d_X3_dearestWord_18 : decode cX3_dearestWord 18 = .ok (.if_icmp .ge 35, 3) := by decide +kernel
theorem d_X3_dearestWord_21 : decode cX3_dearestWord 21 = .ok (.aload_n 0, 1) := by decide +kernel
theorem d_X3_dearestWord_22 : decode cX3_dearestWord 22 = .ok (.iload_n 1, 1) := by decide +kernel
theorem d_X3_dearestWord_23 : decode cX3_dearestWord 23 = .ok (.iload_n 2, 1) := by decide +kernel
theorem d_X3_dearestWord_24 : decode cX3_dearestWord 24 = .ok (.iload 5, 2) := by decide +kernel
theorem d_X3_dearestWord_26 : decode cX3_dearestWord 26 = .ok (.invokevirtual 86, 3) := by decide +kernel
theorem d_X3_dearestWord_29 : decode cX3_dearestWord 29 = .ok (.istore 6, 2) := by decide +kernel
theorem d_X3_dearestWord_31 : decode cX3_dearestWord 31 = .ok (.iload 6, 2) := by decide +kernel
theorem d_X3_dearestWord_33 : decode cX3_dearestWord 33 = .ok (.iload_n 3, 1) := by decide +kernel
theorem d_X3_dearestWord_34 : decode cX3_dearestWord 34 = .ok (.if_icmp .gt 6, 3) := by decide +kernel
theorem d_X3_dearestWord_37 : decode cX3_dearestWord 37 = .ok (.goto 10, 3) := by decide +kernel
theorem d_X3_dearestWord_40 : decode cX3_dearestWord 40 = .ok (.iload 6, 2) := by decide +kernel
theorem d_X3_dearestWord_42 : decode cX3_dearestWord 42 = .ok (.istore_n 3, 1) := by decide +kernel
theorem d_X3_dearestWord_43 : decode cX3_dearestWord 43 = .ok (.iload 5, 2) := by decide +kernel
theorem d_X3_dearestWord_45 : decode cX3_dearestWord 45 = .ok (.istore 4, 2) := by decide +kernel
theorem d_X3_dearestWord_47 : decode cX3_dearestWord 47 = .ok (.iinc 5 1, 3) := by decide +kernel
theorem d_X3_dearestWord_50 : decode cX3_dearestWord 50 = .ok (.goto (-41), 3) := by decide +kernel
theorem d_X3_dearestWord_53 : decode cX3_dearestWord 53 = .ok (.iload 4, 2) := by decide +kernel
theorem d_X3_dearestWord_55 : decode cX3_dearestWord 55 = .ok (.ireturn, 1) := by decide +kernel
def t_X3_dearestWord_0 : List (Nat × QO) := [(0, o_k 0 1), (1, o_is 3 2), (2, o_k (-4) 4), (4, o_is 4 6), (6, o_k 0 7), (7, o_is 5 9), (9, o_il 5 11), (11, o_al 0 12), (12, o_gf 3 0 15), (15, o_gf 0 1 18), (18, o_ic (fun x y => decide (y ≤ x)) 53 21), (21, o_al 0 22)]
theorem ts_X3_dearestWord_0 (sx : QX) : ∀ q ∈ t_X3_dearestWord_0, q_Snd sx RX3 cX3_dearestWord 7 (some .int) q.1 q.2 := List.forall_mem_cons.mpr ⟨s_iconst d_X3_dearestWord_0 rfl, List.forall_mem_cons.mpr ⟨s_istore_n d_X3_dearestWord_1 rfl (by decide), List.forall_mem_cons.mpr ⟨s_bipush d_X3_dearestWord_2 rfl, List.forall_mem_cons.mpr ⟨s_istore d_X3_dearestWord_4 (by decide), List.forall_mem_cons.mpr ⟨s_iconst d_X3_dearestWord_6 rfl, List.forall_mem_cons.mpr ⟨s_istore d_X3_dearestWord_7 (by decide), List.forall_mem_cons.mpr ⟨s_iload d_X3_dearestWord_9, List.forall_mem_cons.mpr ⟨s_aload_n d_X3_dearestWord_11 rfl, List.forall_mem_cons.mpr ⟨s_gf d_X3_dearestWord_12 rfl (by decide) n_X3 in_X3 rfl k_1_113, List.forall_mem_cons.mpr ⟨s_gf d_X3_dearestWord_15 rfl (by decide) n_X0 in_X0 rfl k_1_56, List.forall_mem_cons.mpr ⟨s_ic_ge d_X3_dearestWord_18 (by decide), List.forall_mem_cons.mpr ⟨s_aload_n d_X3_dearestWord_21 rfl, fun _ h => absurd h List.not_mem_nil⟩⟩⟩⟩⟩⟩⟩⟩⟩⟩⟩⟩
def t_X3_dearestWord_1 : List (Nat × QO) := [(22, o_il 1 23), (23, o_il 2 24), (24, o_il 5 26), (26, o_cV 1 3 26 5 4 29), (29, o_is 6 31), (31, o_il 6 33), (33, o_il 3 34), (34, o_ic (fun x y => decide (y < x)) 40 37), (37, o_goto 47), (40, o_il 6 42), (42, o_is 3 43), (43, o_il 5 45)]
theorem ts_X3_dearestWord_1 (sx : QX) : ∀ q ∈ t_X3_dearestWord_1, q_Snd sx RX3 cX3_dearestWord 7 (some .int) q.1 q.2 := List.forall_mem_cons.mpr ⟨s_iload_n d_X3_dearestWord_22 rfl, List.forall_mem_cons.mpr ⟨s_iload_n d_X3_dearestWord_23 rfl, List.forall_mem_cons.mpr ⟨s_iload d_X3_dearestWord_24, List.forall_mem_cons.mpr ⟨s_cV (T := TX3) (N := 8) rfl d_X3_dearestWord_26 rfl k_3_9 k_2_219 k_2_220 k_1_4 k_2_221 ⟨by decide, by decide⟩ (by decide +kernel) (by decide), List.forall_mem_cons.mpr ⟨s_istore d_X3_dearestWord_29 (by decide), List.forall_mem_cons.mpr ⟨s_iload d_X3_dearestWord_31, List.forall_mem_cons.mpr ⟨s_iload_n d_X3_dearestWord_33 rfl, List.forall_mem_cons.mpr ⟨s_ic_gt d_X3_dearestWord_34 (by decide), List.forall_mem_cons.mpr ⟨s_goto d_X3_dearestWord_37 (by decide), List.forall_mem_cons.mpr ⟨s_iload d_X3_dearestWord_40, List.forall_mem_cons.mpr ⟨s_istore_n d_X3_dearestWord_42 rfl (by decide), List.forall_mem_cons.mpr ⟨s_iload d_X3_dearestWord_43, fun _ h => absurd h List.not_mem_nil⟩⟩⟩⟩⟩⟩⟩⟩⟩⟩⟩⟩
def t_X3_dearestWord_2 : List (Nat × QO) := [(45, o_is 4 47), (47, o_inc 5 1 50), (50, o_goto 9), (53, o_il 4 55), (55, o_ir false)]
theorem ts_X3_dearestWord_2 (sx : QX) : ∀ q ∈ t_X3_dearestWord_2, q_Snd sx RX3 cX3_dearestWord 7 (some .int) q.1 q.2 := List.forall_mem_cons.mpr ⟨s_istore d_X3_dearestWord_45 (by decide), List.forall_mem_cons.mpr ⟨s_iinc d_X3_dearestWord_47 rfl (by decide), List.forall_mem_cons.mpr ⟨s_goto d_X3_dearestWord_50 (by decide), List.forall_mem_cons.mpr ⟨s_iload d_X3_dearestWord_53, List.forall_mem_cons.mpr ⟨s_ir d_X3_dearestWord_55 rfl, fun _ h => absurd h List.not_mem_nil⟩⟩⟩⟩⟩
def t_X3_dearestWord (pc : Nat) : Option QO := cond (Nat.ble pc 21) (q_look (t_X3_dearestWord_0) pc) (cond (Nat.ble pc 43) (q_look (t_X3_dearestWord_1) pc) (q_look (t_X3_dearestWord_2) pc))
theorem ts_X3_dearestWord (sx : QX) (pc : Nat) : ∀ o, t_X3_dearestWord pc = some o → q_Snd sx RX3 cX3_dearestWord 7 (some .int) pc o := by
  unfold t_X3_dearestWord
  exact q_cb (q_look_all (ts_X3_dearestWord_0 sx)) (q_cb (q_look_all (ts_X3_dearestWord_1 sx)) (q_look_all (ts_X3_dearestWord_2 sx)))
theorem d_X3_mildest_0 : decode cX3_mildest 0 = .ok (.bipush (-4), 2) := by decide +kernel
theorem d_X3_mildest_2 : decode cX3_mildest 2 = .ok (.istore_n 2, 1) := by decide +kernel
theorem d_X3_mildest_3 : decode cX3_mildest 3 = .ok (.iconst 0, 1) := by decide +kernel
theorem d_X3_mildest_4 : decode cX3_mildest 4 = .ok (.istore_n 3, 1) := by decide +kernel
theorem d_X3_mildest_5 : decode cX3_mildest 5 = .ok (.iconst 0, 1) := by decide +kernel
theorem d_X3_mildest_6 : decode cX3_mildest 6 = .ok (.istore 4, 2) := by decide +kernel
theorem d_X3_mildest_8 : decode cX3_mildest 8 = .ok (.iconst 0, 1) := by decide +kernel
theorem d_X3_mildest_9 : decode cX3_mildest 9 = .ok (.istore 5, 2) := by decide +kernel
theorem d_X3_mildest_11 : decode cX3_mildest 11 = .ok (.iload 5, 2) := by decide +kernel
theorem d_X3_mildest_13 : decode cX3_mildest 13 = .ok (.aload_n 0, 1) := by decide +kernel
theorem d_X3_mildest_14 : decode cX3_mildest 14 = .ok (.getfield 30, 3) := by decide +kernel
theorem d_X3_mildest_17 : decode cX3_mildest 17 = .ok (.getfield 61, 3) := by decide +kernel
theorem d_X3_mildest_20 : decode cX3_mildest 20 = .ok (.if_icmp .ge 128, 3) := by decide +kernel
theorem d_X3_mildest_23 : decode cX3_mildest 23 = .ok (.aload_n 0, 1) := by decide +kernel
theorem d_X3_mildest_24 : decode cX3_mildest 24 = .ok (.getfield 21, 3) := by decide +kernel
theorem d_X3_mildest_27 : decode cX3_mildest 27 = .ok (.iload 5, 2) := by decide +kernel
theorem d_X3_mildest_29 : decode cX3_mildest 29 = .ok (.invokestatic 54, 3) := by decide +kernel
theorem d_X3_mildest_32 : decode cX3_mildest 32 = .ok (.ifCond .gt 6, 3) := by decide +kernel
theorem d_X3_mildest_35 : decode cX3_mildest 35 = .ok (.goto 107, 3) := by decide +kernel
theorem d_X3_mildest_38 : decode cX3_mildest 38 = .ok (.iconst 0, 1) := by decide +kernel
theorem d_X3_mildest_39 : decode cX3_mildest 39 = .ok (.istore 6, 2) := by decide +kernel
theorem d_X3_mildest_41 : decode cX3_mildest 41 = .ok (.iload 6, 2) := by decide +kernel
theorem d_X3_mildest_43 : decode cX3_mildest 43 = .ok (.aload_n 0, 1) := by decide +kernel
theorem d_X3_mildest_44 : decode cX3_mildest 44 = .ok (.getfield 30, 3) := by decide +kernel
theorem d_X3_mildest_47 : decode cX3_mildest 47 = .ok (.getfield 122, 3) := by decide +kernel
theorem d_X3_mildest_50 : decode cX3_mildest 50 = .ok (.if_icmp .ge 92, 3) := by decide +kernel
theorem d_X3_mildest_53 : decode cX3_mildest 53 = .ok (.aload_n 0, 1) := by decide +kernel
theorem d_X3_mildest_54 : decode cX3_mildest 54 = .ok (.iload 5, 2) := by decide +kernel
theorem d_X3_mildest_56 : decode cX3_mildest 56 = .ok (.iload_n 1, 1) := by decide +kernel
theorem d_X3_mildest_57 : decode cX3_mildest 57 = .ok (.iload 6, 2) := by decide +kernel
theorem d_X3_mildest_59 : decode cX3_mildest 59 = .ok (.invokevirtual 86, 3) := by decide +kernel
theorem d_X3_mildest_62 : decode cX3_mildest 62 = .ok (.istore 7, 2) := by decide +kernel
theorem d_X3_mildest_64 : decode cX3_mildest 64 = .ok (.iload 7, 2) := by decide +kernel
theorem d_X3_mildest_66 : decode cX3_mildest 66 = .ok (.ifCond .gt 6, 3) := by decide +kernel
theorem d_X3_mildest_69 : decode cX3_mildest 69 = .ok (.goto 67, 3) := by decide +kernel
theorem d_X3_mildest_72 : decode cX3_mildest 72 = .ok (.aload_n 0, 1) := by decide +kernel
theorem d_X3_mildest_73 : decode cX3_mildest 73 = .ok (.iload_n 1, 1) := by decide +kernel
theorem d_X3_mildest_74 : decode cX3_mildest 74 = .ok (.iload 6, 2) := by decide +kernel
theorem d_X3_mildest_76 : decode cX3_mildest 76 = .ok (.invokevirtual 141, 3) := by decide +kernel
theorem d_X3_mildest_79 : decode cX3_mildest 79 = .ok (.istore 8, 2) := by decide +kernel
theorem d_X3_mildest_81 : decode cX3_mildest 81 = .ok (.iload_n 2, 1) := by decide +kernel
theorem d_X3_mildest_82 : decode cX3_mildest 82 = .ok (.bipush (-4), 2) := by decide +kernel
theorem d_X3_mildest_84 : decode cX3_mildest 84 = .ok (.if_icmp .eq 22, 3) := by decide +kernel
theorem d_X3_mildest_87 : decode cX3_mildest 87 = .ok (.iload 8, 2) := by decide +kernel
theorem d_X3_mildest_89 : decode cX3_mildest 89 = .ok (.iload_n 3, 1) := by decide +kernel
theorem d_X3_mildest_90 : decode cX3_mildest 90 = .ok (.if_icmp .lt 16, 3) := by decide +kernel
theorem d_X3_mildest_93 : decode cX3_mildest 93 = .ok (.iload 8, 2) := by decide +kernel
theorem d_X3_mildest_95 : decode cX3_mildest 95 = .ok (.iload_n 3, 1) := by decide +kernel
theorem d_X3_mildest_96 : decode cX3_mildest 96 = .ok (.if_icmp .ne 14, 3) := by decide +kernel
theorem d_X3_mildest_99 : decode cX3_mildest 99 = .ok (.iload 7, 2) := by decide +kernel
theorem d_X3_mildest_101 : decode cX3_mildest 101 = .ok (.iload 4, 2) := by decide +kernel
theorem d_X3_mildest_103 : decode cX3_mildest 103 = .ok (.if_icmp .le 7, 3) := by decide +kernel
theorem d_X3_mildest_106 : decode cX3_mildest 106 = .ok (.iconst 1, 1) := by decide +kernel
theorem d_X3_mildest_107 : decode cX3_mildest 107 = .ok (.goto 4, 3) := by decide +kernel
theorem d_X3_mildest_110 : decode cX3_mildest 110 = .ok (.iconst 0, 1) := by decide +kernel
theorem d_X3_mildest_111 : decode cX3_mildest 111 = .ok (.istore 9, 2) := by decide +kernel
theorem d_X3_mildest_113 : decode cX3_mildest 113 = .ok (.iload 9, 2) := by decide +kernel
theorem d_X3_mildest_115 : decode cX3_mildest 115 = .ok (.ifCond .ne 6, 3) := by decide +kernel
theorem d_X3_mildest_118 : decode cX3_mildest 118 = .ok (.goto 18, 3) := by decide +kernel
theorem d_X3_mildest_121 : decode cX3_mildest 121 = .ok (.iload 5, 2) := by decide +kernel
theorem d_X3_mildest_123 : decode cX3_mildest 123 = .ok (.iload 6, 2) := by decide +kernel
theorem d_X3_mildest_125 : decode cX3_mildest 125 = .ok (.invokestatic 125, 3) := by decide +kernel
theorem d_X3_mildest_128 : decode cX3_mildest 128 = .ok (.istore_n 2, 1) := by decide +kernel
theorem d_X3_mildest_129 : decode cX3_mildest 129 = .ok (.iload 8, 2) := by decide +kernel
theorem d_X3_mildest_131 : decode cX3_mildest 131 = .ok (.istore_n 3, 1) := by decide +kernel
theorem d_X3_mildest_132 : decode cX3_mildest 132 = .ok (.iload 7, 2) := by decide +kernel
theorem d_X3_mildest_134 : decode cX3_mildest 134 = .ok (.istore 4, 2) := by decide +kernel
theorem d_X3_mildest_136 : decode cX3_mildest 136 = .ok (.iinc 6 1, 3) := by decide +kernel
theorem d_X3_mildest_139 : decode cX3_mildest 139 = .ok (.goto (-98), 3) := by decide +kernel
theorem d_X3_mildest_142 : decode cX3_mildest 142 = .ok (.iinc 5 1, 3) := by decide +kernel
theorem d_X3_mildest_145 : decode cX3_mildest 145 = .ok (.goto (-134), 3) := by decide +kernel
theorem d_X3_mildest_148 : decode cX3_mildest 148 = .ok (.iload_n 2, 1) := by decide +kernel
theorem d_X3_mildest_149 : decode cX3_mildest 149 = .ok (.ireturn, 1) := by decide +kernel
def t_X3_mildest_0 : List (Nat × QO) := [(0, o_k (-4) 2), (2, o_is 2 3), (3, o_k 0 4), (4, o_is 3 5), (5, o_k 0 6), (6, o_is 4 8), (8, o_k 0 9), (9, o_is 5 11), (11, o_il 5 13), (13, o_al 0 14), (14, o_gf 3 0 17), (17, o_gf 0 2 20)]
theorem ts_X3_mildest_0 (sx : QX) : ∀ q ∈ t_X3_mildest_0, q_Snd sx RX3 cX3_mildest 10 (some .int) q.1 q.2 := List.forall_mem_cons.mpr ⟨s_bipush d_X3_mildest_0 rfl, List.forall_mem_cons.mpr ⟨s_istore_n d_X3_mildest_2 rfl (by decide), List.forall_mem_cons.mpr ⟨s_iconst d_X3_mildest_3 rfl, List.forall_mem_cons.mpr ⟨s_istore_n d_X3_mildest_4 rfl (by decide), List.forall_mem_cons.mpr ⟨s_iconst d_X3_mildest_5 rfl, List.forall_mem_cons.mpr ⟨s_istore d_X3_mildest_6 (by decide), List.forall_mem_cons.mpr ⟨s_iconst d_X3_mildest_8 rfl, List.forall_mem_cons.mpr ⟨s_istore d_X3_mildest_9 (by decide), List.forall_mem_cons.mpr ⟨s_iload d_X3_mildest_11, List.forall_mem_cons.mpr ⟨s_aload_n d_X3_mildest_13 rfl, List.forall_mem_cons.mpr ⟨s_gf d_X3_mildest_14 rfl (by decide) n_X3 in_X3 rfl k_1_113, List.forall_mem_cons.mpr ⟨s_gf d_X3_mildest_17 rfl (by decide) n_X0 in_X0 rfl k_1_60, fun _ h => absurd h List.not_mem_nil⟩⟩⟩⟩⟩⟩⟩⟩⟩⟩⟩⟩
def t_X3_mildest_1 : List (Nat × QO) := [(20, o_ic (fun x y => decide (y ≤ x)) 148 23), (23, o_al 0 24), (24, o_gf 3 5 27), (27, o_il 5 29), (29, o_cS 1 97 2 2 32), (32, o_if (fun x => decide (0 < x)) 38 35), (35, o_goto 142), (38, o_k 0 39), (39, o_is 6 41), (41, o_il 6 43), (43, o_al 0 44), (44, o_gf 3 0 47)]
theorem ts_X3_mildest_1 (sx : QX) : ∀ q ∈ t_X3_mildest_1, q_Snd sx RX3 cX3_mildest 10 (some .int) q.1 q.2 := List.forall_mem_cons.mpr ⟨s_ic_ge d_X3_mildest_20 (by decide), List.forall_mem_cons.mpr ⟨s_aload_n d_X3_mildest_23 rfl, List.forall_mem_cons.mpr ⟨s_gf d_X3_mildest_24 rfl (by decide) n_X3 in_X3 rfl k_1_126, List.forall_mem_cons.mpr ⟨s_iload d_X3_mildest_27, List.forall_mem_cons.mpr ⟨s_cN (host := "StoneApologies") rfl d_X3_mildest_29 (List.mem_of_getElem? (i := 10) rfl) k_2_57 k_1_1 k_2_58 ⟨by decide, by decide⟩ (by decide +kernel) (by decide), List.forall_mem_cons.mpr ⟨s_if_gt d_X3_mildest_32 (by decide), List.forall_mem_cons.mpr ⟨s_goto d_X3_mildest_35 (by decide), List.forall_mem_cons.mpr ⟨s_iconst d_X3_mildest_38 rfl, List.forall_mem_cons.mpr ⟨s_istore d_X3_mildest_39 (by decide), List.forall_mem_cons.mpr ⟨s_iload d_X3_mildest_41, List.forall_mem_cons.mpr ⟨s_aload_n d_X3_mildest_43 rfl, List.forall_mem_cons.mpr ⟨s_gf d_X3_mildest_44 rfl (by decide) n_X3 in_X3 rfl k_1_113, fun _ h => absurd h List.not_mem_nil⟩⟩⟩⟩⟩⟩⟩⟩⟩⟩⟩⟩
def t_X3_mildest_2 : List (Nat × QO) := [(47, o_gf 0 1 50), (50, o_ic (fun x y => decide (y ≤ x)) 142 53), (53, o_al 0 54), (54, o_il 5 56), (56, o_il 1 57), (57, o_il 6 59), (59, o_cV 1 3 26 5 4 62), (62, o_is 7 64), (64, o_il 7 66), (66, o_if (fun x => decide (0 < x)) 72 69), (69, o_goto 136), (72, o_al 0 73)]
theorem ts_X3_mildest_2 (sx : QX) : ∀ q ∈ t_X3_mildest_2, q_Snd sx RX3 cX3_mildest 10 (some .int) q.1 q.2 := List.forall_mem_cons.mpr ⟨s_gf d_X3_mildest_47 rfl (by decide) n_X0 in_X0 rfl k_1_56, List.forall_mem_cons.mpr ⟨s_ic_ge d_X3_mildest_50 (by decide), List.forall_mem_cons.mpr ⟨s_aload_n d_X3_mildest_53 rfl, List.forall_mem_cons.mpr ⟨s_iload d_X3_mildest_54, List.forall_mem_cons.mpr ⟨s_iload_n d_X3_mildest_56 rfl, List.forall_mem_cons.mpr ⟨s_iload d_X3_mildest_57, List.forall_mem_cons.mpr ⟨s_cV (T := TX3) (N := 8) rfl d_X3_mildest_59 rfl k_3_9 k_2_219 k_2_220 k_1_4 k_2_221 ⟨by decide, by decide⟩ (by decide +kernel) (by decide), List.forall_mem_cons.mpr ⟨s_istore d_X3_mildest_62 (by decide), List.forall_mem_cons.mpr ⟨s_iload d_X3_mildest_64, List.forall_mem_cons.mpr ⟨s_if_gt d_X3_mildest_66 (by decide), List.forall_mem_cons.mpr ⟨s_goto d_X3_mildest_69 (by decide), List.forall_mem_cons.mpr ⟨s_aload_n d_X3_mildest_72 rfl, fun _ h => absurd h List.not_mem_nil⟩⟩⟩⟩⟩⟩⟩⟩⟩⟩⟩⟩
def t_X3_mildest_3 : List (Nat × QO) := [(73, o_il 1 74), (74, o_il 6 76), (76, o_cV 1 3 43 6 3 79), (79, o_is 8 81), (81, o_il 2 82), (82, o_k (-4) 84), (84, o_ic (fun x y => decide (x = y)) 106 87), (87, o_il 8 89), (89, o_il 3 90), (90, o_ic (fun x y => decide (x < y)) 106 93), (93, o_il 8 95), (95, o_il 3 96)]
theorem ts_X3_mildest_3 (sx : QX) : ∀ q ∈ t_X3_mildest_3, q_Snd sx RX3 cX3_mildest 10 (some .int) q.1 q.2 := List.forall_mem_cons.mpr ⟨s_iload_n d_X3_mildest_73 rfl, List.forall_mem_cons.mpr ⟨s_iload d_X3_mildest_74, List.forall_mem_cons.mpr ⟨s_cV (T := TX3) (N := 8) rfl d_X3_mildest_76 rfl k_3_171 k_3_173 k_0_16 k_1_4 k_3_174 ⟨by decide, by decide⟩ (by decide +kernel) (by decide), List.forall_mem_cons.mpr ⟨s_istore d_X3_mildest_79 (by decide), List.forall_mem_cons.mpr ⟨s_iload_n d_X3_mildest_81 rfl, List.forall_mem_cons.mpr ⟨s_bipush d_X3_mildest_82 rfl, List.forall_mem_cons.mpr ⟨s_ic_eq d_X3_mildest_84 (by decide), List.forall_mem_cons.mpr ⟨s_iload d_X3_mildest_87, List.forall_mem_cons.mpr ⟨s_iload_n d_X3_mildest_89 rfl, List.forall_mem_cons.mpr ⟨s_ic_lt d_X3_mildest_90 (by decide), List.forall_mem_cons.mpr ⟨s_iload d_X3_mildest_93, List.forall_mem_cons.mpr ⟨s_iload_n d_X3_mildest_95 rfl, fun _ h => absurd h List.not_mem_nil⟩⟩⟩⟩⟩⟩⟩⟩⟩⟩⟩⟩
def t_X3_mildest_4 : List (Nat × QO) := [(96, o_ic (fun x y => decide (x ≠ y)) 110 99), (99, o_il 7 101), (101, o_il 4 103), (103, o_ic (fun x y => decide (x ≤ y)) 110 106), (106, o_k 1 107), (107, o_goto 111), (110, o_k 0 111), (111, o_is 9 113), (113, o_il 9 115), (115, o_if (fun x => decide (x ≠ 0)) 121 118), (118, o_goto 136), (121, o_il 5 123)]
theorem ts_X3_mildest_4 (sx : QX) : ∀ q ∈ t_X3_mildest_4, q_Snd sx RX3 cX3_mildest 10 (some .int) q.1 q.2 := List.forall_mem_cons.mpr ⟨s_ic_ne d_X3_mildest_96 (by decide), List.forall_mem_cons.mpr ⟨s_iload d_X3_mildest_99, List.forall_mem_cons.mpr ⟨s_iload d_X3_mildest_101, List.forall_mem_cons.mpr ⟨s_ic_le d_X3_mildest_103 (by decide), List.forall_mem_cons.mpr ⟨s_iconst d_X3_mildest_106 rfl, List.forall_mem_cons.mpr ⟨s_goto d_X3_mildest_107 (by decide), List.forall_mem_cons.mpr ⟨s_iconst d_X3_mildest_110 rfl, List.forall_mem_cons.mpr ⟨s_istore d_X3_mildest_111 (by decide), List.forall_mem_cons.mpr ⟨s_iload d_X3_mildest_113, List.forall_mem_cons.mpr ⟨s_if_ne d_X3_mildest_115 (by decide), List.forall_mem_cons.mpr ⟨s_goto d_X3_mildest_118 (by decide), List.forall_mem_cons.mpr ⟨s_iload d_X3_mildest_121, fun _ h => absurd h List.not_mem_nil⟩⟩⟩⟩⟩⟩⟩⟩⟩⟩⟩⟩
def t_X3_mildest_5 : List (Nat × QO) := [(123, o_il 6 125), (125, o_cS 1 92 2 2 128), (128, o_is 2 129), (129, o_il 8 131), (131, o_is 3 132), (132, o_il 7 134), (134, o_is 4 136), (136, o_inc 6 1 139), (139, o_goto 41), (142, o_inc 5 1 145), (145, o_goto 11), (148, o_il 2 149)]
theorem ts_X3_mildest_5 (sx : QX) : ∀ q ∈ t_X3_mildest_5, q_Snd sx RX3 cX3_mildest 10 (some .int) q.1 q.2 := List.forall_mem_cons.mpr ⟨s_iload d_X3_mildest_123, List.forall_mem_cons.mpr ⟨s_cN (host := "StoneApologies") rfl d_X3_mildest_125 (List.mem_of_getElem? (i := 13) rfl) k_3_94 k_1_1 k_3_95 ⟨by decide, by decide⟩ (by decide +kernel) (by decide), List.forall_mem_cons.mpr ⟨s_istore_n d_X3_mildest_128 rfl (by decide), List.forall_mem_cons.mpr ⟨s_iload d_X3_mildest_129, List.forall_mem_cons.mpr ⟨s_istore_n d_X3_mildest_131 rfl (by decide), List.forall_mem_cons.mpr ⟨s_iload d_X3_mildest_132, List.forall_mem_cons.mpr ⟨s_istore d_X3_mildest_134 (by decide), List.forall_mem_cons.mpr ⟨s_iinc d_X3_mildest_136 rfl (by decide), List.forall_mem_cons.mpr ⟨s_goto d_X3_mildest_139 (by decide), List.forall_mem_cons.mpr ⟨s_iinc d_X3_mildest_142 rfl (by decide), List.forall_mem_cons.mpr ⟨s_goto d_X3_mildest_145 (by decide), List.forall_mem_cons.mpr ⟨s_iload_n d_X3_mildest_148 rfl, fun _ h => absurd h List.not_mem_nil⟩⟩⟩⟩⟩⟩⟩⟩⟩⟩⟩⟩
def t_X3_mildest_6 : List (Nat × QO) := [(149, o_ir false)]
theorem ts_X3_mildest_6 (sx : QX) : ∀ q ∈ t_X3_mildest_6, q_Snd sx RX3 cX3_mildest 10 (some .int) q.1 q.2 := List.forall_mem_cons.mpr ⟨s_ir d_X3_mildest_149 rfl, fun _ h => absurd h List.not_mem_nil⟩
def t_X3_mildest (pc : Nat) : Option QO := cond (Nat.ble pc 72) (cond (Nat.ble pc 17) (q_look (t_X3_mildest_0) pc) (cond (Nat.ble pc 44) (q_look (t_X3_mildest_1) pc) (q_look (t_X3_mildest_2) pc))) (cond (Nat.ble pc 121) (cond (Nat.ble pc 95) (q_look (t_X3_mildest_3) pc) (q_look (t_X3_mildest_4) pc)) (cond (Nat.ble pc 148) (q_look (t_X3_mildest_5) pc) (q_look (t_X3_mildest_6) pc)))
theorem ts_X3_mildest (sx : QX) (pc : Nat) : ∀ o, t_X3_mildest pc = some o → q_Snd sx RX3 cX3_mildest 10 (some .int) pc o := by
  unfold t_X3_mildest
  exact q_cb (q_cb (q_look_all (ts_X3_mildest_0 sx)) (q_cb (q_look_all (ts_X3_mildest_1 sx)) (q_look_all (ts_X3_mildest_2 sx)))) (q_cb (q_cb (q_look_all (ts_X3_mildest_3 sx)) (q_look_all (ts_X3_mildest_4 sx))) (q_cb (q_look_all (ts_X3_mildest_5 sx)) (q_look_all (ts_X3_mildest_6 sx))))
theorem d_X3_harmOf_0 : decode cX3_harmOf 0 = .ok (.iconst 0, 1) := by decide +kernel
theorem d_X3_harmOf_1 : decode cX3_harmOf 1 = .ok (.istore_n 3, 1) := by decide +kernel
theorem d_X3_harmOf_2 : decode cX3_harmOf 2 = .ok (.iload_n 1, 1) := by decide +kernel
theorem d_X3_harmOf_3 : decode cX3_harmOf 3 = .ok (.iconst 2, 1) := by decide +kernel
theorem d_X3_harmOf_4 : decode cX3_harmOf 4 = .ok (.isub, 1) := by decide +kernel
theorem d_X3_harmOf_5 : decode cX3_harmOf 5 = .ok (.istore 4, 2) := by decide +kernel
theorem d_X3_harmOf_7 : decode cX3_harmOf 7 = .ok (.iload 4, 2) := by decide +kernel
theorem d_X3_harmOf_9 : decode cX3_harmOf 9 = .ok (.iload_n 1, 1) := by decide +kernel
theorem d_X3_harmOf_10 : decode cX3_harmOf 10 = .ok (.iconst 2, 1) := by decide +kernel
theorem d_X3_harmOf_11 : decode cX3_harmOf 11 = .ok (.iadd, 1) := by decide +kernel
theorem d_X3_harmOf_12 : decode cX3_harmOf 12 = .ok (.if_icmp .gt 63, 3) := by decide +kernel
theorem d_X3_harmOf_15 : decode cX3_harmOf 15 = .ok (.iload 4, 2) := by decide +kernel
theorem d_X3_harmOf_17 : decode cX3_harmOf 17 = .ok (.iload_n 1, 1) := by decide +kernel
theorem d_X3_harmOf_18 : decode cX3_harmOf 18 = .ok (.if_icmp .eq 51, 3) := by decide +kernel
theorem d_X3_harmOf_21 : decode cX3_harmOf 21 = .ok (.aload_n 0, 1) := by decide +kernel
theorem d_X3_harmOf_22 : decode cX3_harmOf 22 = .ok (.iload_n 1, 1) := by decide +kernel
theorem d_X3_harmOf_23 : decode cX3_harmOf 23 = .ok (.iload 4, 2) := by decide +kernel
theorem d_X3_harmOf_25 : decode cX3_harmOf 25 = .ok (.invokevirtual 93, 3) := by decide +kernel
theorem d_X3_harmOf_28 : decode cX3_harmOf 28 = .ok (.ifCond .ne 6, 3) := by decide +kernel
theorem d_X3_harmOf_31 : decode cX3_harmOf 31 = .ok (.goto 38, 3) := by decide +kernel
theorem d_X3_harmOf_34 : decode cX3_harmOf 34 = .ok (.aload_n 0, 1) := by decide +kernel
theorem d_X3_harmOf_35 : decode cX3_harmOf 35 = .ok (.getfield 30, 3) := by decide +kernel
theorem d_X3_harmOf_38 : decode cX3_harmOf 38 = .ok (.getfield 144, 3) := by decide +kernel
theorem d_X3_harmOf_41 : decode cX3_harmOf 41 = .ok (.iload 4, 2) := by decide +kernel
theorem d_X3_harmOf_43 : decode cX3_harmOf 43 = .ok (.iload_n 2, 1) := by decide +kernel
theorem d_X3_harmOf_44 : decode cX3_harmOf 44 = .ok (.invokestatic 67, 3) := by decide +kernel
theorem d_X3_harmOf_47 : decode cX3_harmOf 47 = .ok (.invokestatic 54, 3) := by decide +kernel
theorem d_X3_harmOf_50 : decode cX3_harmOf 50 = .ok (.istore 5, 2) := by decide +kernel
theorem d_X3_harmOf_52 : decode cX3_harmOf 52 = .ok (.iload_n 3, 1) := by decide +kernel
theorem d_X3_harmOf_53 : decode cX3_harmOf 53 = .ok (.iconst 0, 1) := by decide +kernel
theorem d_X3_harmOf_54 : decode cX3_harmOf 54 = .ok (.iload 5, 2) := by decide +kernel
theorem d_X3_harmOf_56 : decode cX3_harmOf 56 = .ok (.aload_n 0, 1) := by decide +kernel
theorem d_X3_harmOf_57 : decode cX3_harmOf 57 = .ok (.iload 4, 2) := by decide +kernel
theorem d_X3_harmOf_59 : decode cX3_harmOf 59 = .ok (.iload_n 2, 1) := by decide +kernel
theorem d_X3_harmOf_60 : decode cX3_harmOf 60 = .ok (.invokevirtual 147, 3) := by decide +kernel
theorem d_X3_harmOf_63 : decode cX3_harmOf 63 = .ok (.isub, 1) := by decide +kernel
theorem d_X3_harmOf_64 : decode cX3_harmOf 64 = .ok (.invokestatic 78, 3) := by decide +kernel
theorem d_X3_harmOf_67 : decode cX3_harmOf 67 = .ok (.iadd, 1) := by decide +kernel
theorem d_X3_harmOf_68 : decode cX3_harmOf 68 = .ok (.istore_n 3, 1) := by decide +kernel
theorem d_X3_harmOf_69 : decode cX3_harmOf 69 = .ok (.iinc 4 1, 3) := by decide +kernel
theorem d_X3_harmOf_72 : decode cX3_harmOf 72 = .ok (.goto (-65), 3) := by decide +kernel
theorem d_X3_harmOf_75 : decode cX3_harmOf 75 = .ok (.iload_n 3, 1) := by decide +kernel
theorem d_X3_harmOf_76 : decode cX3_harmOf 76 = .ok (.ireturn, 1) := by decide +kernel
def t_X3_harmOf_0 : List (Nat × QO) := [(0, o_k 0 1), (1, o_is 3 2), (2, o_il 1 3), (3, o_k 2 4), (4, o_b (fun x y => x - y) 5), (5, o_is 4 7), (7, o_il 4 9), (9, o_il 1 10), (10, o_k 2 11), (11, o_b (fun x y => x + y) 12), (12, o_ic (fun x y => decide (y < x)) 75 15), (15, o_il 4 17)]
theorem ts_X3_harmOf_0 (sx : QX) : ∀ q ∈ t_X3_harmOf_0, q_Snd sx RX3 cX3_harmOf 6 (some .int) q.1 q.2 := List.forall_mem_cons.mpr ⟨s_iconst d_X3_harmOf_0 rfl, List.forall_mem_cons.mpr ⟨s_istore_n d_X3_harmOf_1 rfl (by decide), List.forall_mem_cons.mpr ⟨s_iload_n d_X3_harmOf_2 rfl, List.forall_mem_cons.mpr ⟨s_iconst d_X3_harmOf_3 rfl, List.forall_mem_cons.mpr ⟨s_isub d_X3_harmOf_4, List.forall_mem_cons.mpr ⟨s_istore d_X3_harmOf_5 (by decide), List.forall_mem_cons.mpr ⟨s_iload d_X3_harmOf_7, List.forall_mem_cons.mpr ⟨s_iload_n d_X3_harmOf_9 rfl, List.forall_mem_cons.mpr ⟨s_iconst d_X3_harmOf_10 rfl, List.forall_mem_cons.mpr ⟨s_iadd d_X3_harmOf_11, List.forall_mem_cons.mpr ⟨s_ic_gt d_X3_harmOf_12 (by decide), List.forall_mem_cons.mpr ⟨s_iload d_X3_harmOf_15, fun _ h => absurd h List.not_mem_nil⟩⟩⟩⟩⟩⟩⟩⟩⟩⟩⟩⟩
def t_X3_harmOf_1 : List (Nat × QO) := [(17, o_il 1 18), (18, o_ic (fun x y => decide (x = y)) 69 21), (21, o_al 0 22), (22, o_il 1 23), (23, o_il 4 25), (25, o_cV 1 3 31 4 3 28), (28, o_if (fun x => decide (x ≠ 0)) 34 31), (31, o_goto 69), (34, o_al 0 35), (35, o_gf 3 0 38), (38, o_gf 0 10 41), (41, o_il 4 43)]
theorem ts_X3_harmOf_1 (sx : QX) : ∀ q ∈ t_X3_harmOf_1, q_Snd sx RX3 cX3_harmOf 6 (some .int) q.1 q.2 := List.forall_mem_cons.mpr ⟨s_iload_n d_X3_harmOf_17 rfl, List.forall_mem_cons.mpr ⟨s_ic_eq d_X3_harmOf_18 (by decide), List.forall_mem_cons.mpr ⟨s_aload_n d_X3_harmOf_21 rfl, List.forall_mem_cons.mpr ⟨s_iload_n d_X3_harmOf_22 rfl, List.forall_mem_cons.mpr ⟨s_iload d_X3_harmOf_23, List.forall_mem_cons.mpr ⟨s_cV (T := TX3) (N := 8) rfl d_X3_harmOf_25 rfl k_3_11 k_3_13 k_0_11 k_1_4 k_3_14 ⟨by decide, by decide⟩ (by decide +kernel) (by decide), List.forall_mem_cons.mpr ⟨s_if_ne d_X3_harmOf_28 (by decide), List.forall_mem_cons.mpr ⟨s_goto d_X3_harmOf_31 (by decide), List.forall_mem_cons.mpr ⟨s_aload_n d_X3_harmOf_34 rfl, List.forall_mem_cons.mpr ⟨s_gf d_X3_harmOf_35 rfl (by decide) n_X3 in_X3 rfl k_1_113, List.forall_mem_cons.mpr ⟨s_gf d_X3_harmOf_38 rfl (by decide) n_X0 in_X0 rfl k_1_79, List.forall_mem_cons.mpr ⟨s_iload d_X3_harmOf_41, fun _ h => absurd h List.not_mem_nil⟩⟩⟩⟩⟩⟩⟩⟩⟩⟩⟩⟩
def t_X3_harmOf_2 : List (Nat × QO) := [(43, o_il 2 44), (44, o_cS 1 12 2 2 47), (47, o_cS 1 97 2 2 50), (50, o_is 5 52), (52, o_il 3 53), (53, o_k 0 54), (54, o_il 5 56), (56, o_al 0 57), (57, o_il 4 59), (59, o_il 2 60), (60, o_cV 1 3 25 3 3 63), (63, o_b (fun x y => x - y) 64)]
theorem ts_X3_harmOf_2 (sx : QX) : ∀ q ∈ t_X3_harmOf_2, q_Snd sx RX3 cX3_harmOf 6 (some .int) q.1 q.2 := List.forall_mem_cons.mpr ⟨s_iload_n d_X3_harmOf_43 rfl, List.forall_mem_cons.mpr ⟨s_cS rfl d_X3_harmOf_44 k_2_199 k_2_96 k_1_3 k_2_97 ⟨by decide, by decide⟩ (by decide +kernel) (by decide), List.forall_mem_cons.mpr ⟨s_cN (host := "StoneApologies") rfl d_X3_harmOf_47 (List.mem_of_getElem? (i := 10) rfl) k_2_57 k_1_1 k_2_58 ⟨by decide, by decide⟩ (by decide +kernel) (by decide), List.forall_mem_cons.mpr ⟨s_istore d_X3_harmOf_50 (by decide), List.forall_mem_cons.mpr ⟨s_iload_n d_X3_harmOf_52 rfl, List.forall_mem_cons.mpr ⟨s_iconst d_X3_harmOf_53 rfl, List.forall_mem_cons.mpr ⟨s_iload d_X3_harmOf_54, List.forall_mem_cons.mpr ⟨s_aload_n d_X3_harmOf_56 rfl, List.forall_mem_cons.mpr ⟨s_iload d_X3_harmOf_57, List.forall_mem_cons.mpr ⟨s_iload_n d_X3_harmOf_59 rfl, List.forall_mem_cons.mpr ⟨s_cV (T := TX3) (N := 8) rfl d_X3_harmOf_60 rfl k_3_175 k_2_196 k_2_197 k_1_4 k_2_198 ⟨by decide, by decide⟩ (by decide +kernel) (by decide), List.forall_mem_cons.mpr ⟨s_isub d_X3_harmOf_63, fun _ h => absurd h List.not_mem_nil⟩⟩⟩⟩⟩⟩⟩⟩⟩⟩⟩⟩
def t_X3_harmOf_3 : List (Nat × QO) := [(64, o_max 67), (67, o_b (fun x y => x + y) 68), (68, o_is 3 69), (69, o_inc 4 1 72), (72, o_goto 7), (75, o_il 3 76), (76, o_ir false)]
theorem ts_X3_harmOf_3 (sx : QX) : ∀ q ∈ t_X3_harmOf_3, q_Snd sx RX3 cX3_harmOf 6 (some .int) q.1 q.2 := List.forall_mem_cons.mpr ⟨s_max d_X3_harmOf_64 k_2_223 k_2_224 k_1_13 k_2_225, List.forall_mem_cons.mpr ⟨s_iadd d_X3_harmOf_67, List.forall_mem_cons.mpr ⟨s_istore_n d_X3_harmOf_68 rfl (by decide), List.forall_mem_cons.mpr ⟨s_iinc d_X3_harmOf_69 rfl (by decide), List.forall_mem_cons.mpr ⟨s_goto d_X3_harmOf_72 (by decide), List.forall_mem_cons.mpr ⟨s_iload_n d_X3_harmOf_75 rfl, List.forall_mem_cons.mpr ⟨s_ir d_X3_harmOf_76 rfl, fun _ h => absurd h List.not_mem_nil⟩⟩⟩⟩⟩⟩⟩
def t_X3_harmOf (pc : Nat) : Option QO := cond (Nat.ble pc 41) (cond (Nat.ble pc 15) (q_look (t_X3_harmOf_0) pc) (q_look (t_X3_harmOf_1) pc)) (cond (Nat.ble pc 63) (q_look (t_X3_harmOf_2) pc) (q_look (t_X3_harmOf_3) pc))
theorem ts_X3_harmOf (sx : QX) (pc : Nat) : ∀ o, t_X3_harmOf pc = some o → q_Snd sx RX3 cX3_harmOf 6 (some .int) pc o := by
  unfold t_X3_harmOf
  exact q_cb (q_cb (q_look_all (ts_X3_harmOf_0 sx)) (q_look_all (ts_X3_harmOf_1 sx))) (q_cb (q_look_all (ts_X3_harmOf_2 sx)) (q_look_all (ts_X3_harmOf_3 sx)))
theorem d_X3_explains_0 : decode cX3_explains 0 = .ok (.iconst 0, 1) := by decide +kernel
theorem d_X3_explains_1 : decode cX3_explains 1 = .ok (.istore_n 2, 1) := by decide +kernel
theorem d_X3_explains_2 : decode cX3_explains 2 = .ok (.iload_n 2, 1) := by decide +kernel
theorem d_X3_explains_3 : decode cX3_explains 3 = .ok (.aload_n 0, 1) := by decide +kernel
theorem d_X3_explains_4 : decode cX3_explains 4 = .ok (.getfield 30, 3) := by decide +kernel
theorem d_X3_explains_7 : decode cX3_explains 7 = .ok (.getfield 58, 3) := by decide +kernel
theorem d_X3_explains_10 : decode cX3_explains 10 = .ok (.if_icmp .ge 32, 3) := by decide +kernel
theorem d_X3_explains_13 : decode cX3_explains 13 = .ok (.aload_n 0, 1) := by decide +kernel
theorem d_X3_explains_14 : decode cX3_explains 14 = .ok (.getfield 15, 3) := by decide +kernel
theorem d_X3_explains_17 : decode cX3_explains 17 = .ok (.iload_n 2, 1) := by decide +kernel
theorem d_X3_explains_18 : decode cX3_explains 18 = .ok (.invokestatic 54, 3) := by decide +kernel
theorem d_X3_explains_21 : decode cX3_explains 21 = .ok (.iconst 3, 1) := by decide +kernel
theorem d_X3_explains_22 : decode cX3_explains 22 = .ok (.if_icmp .ne 14, 3) := by decide +kernel
theorem d_X3_explains_25 : decode cX3_explains 25 = .ok (.aload_n 0, 1) := by decide +kernel
theorem d_X3_explains_26 : decode cX3_explains 26 = .ok (.iload_n 1, 1) := by decide +kernel
theorem d_X3_explains_27 : decode cX3_explains 27 = .ok (.iload_n 2, 1) := by decide +kernel
theorem d_X3_explains_28 : decode cX3_explains 28 = .ok (.invokevirtual 150, 3) := by decide +kernel
theorem d_X3_explains_31 : decode cX3_explains 31 = .ok (.ifCond .ne 5, 3) := by decide +kernel
theorem d_X3_explains_34 : decode cX3_explains 34 = .ok (.iconst 0, 1) := by decide +kernel
theorem d_X3_explains_35 : decode cX3_explains 35 = .ok (.ireturn, 1) := by decide +kernel
theorem d_X3_explains_36 : decode cX3_explains 36 = .ok (.iinc 2 1, 3) := by decide +kernel
theorem d_X3_explains_39 : decode cX3_explains 39 = .ok (.goto (-37), 3) := by decide +kernel
theorem d_X3_explains_42 : decode cX3_explains 42 = .ok (.iconst 1, 1) := by decide +kernel
theorem d_X3_explains_43 : decode cX3_explains 43 = .ok (.ireturn, 1) := by decide +kernel
def t_X3_explains_0 : List (Nat × QO) := [(0, o_k 0 1), (1, o_is 2 2), (2, o_il 2 3), (3, o_al 0 4), (4, o_gf 3 0 7), (7, o_gf 0 0 10), (10, o_ic (fun x y => decide (y ≤ x)) 42 13), (13, o_al 0 14), (14, o_gf 3 3 17), (17, o_il 2 18), (18, o_cS 1 97 2 2 21), (21, o_k 3 22)]
theorem ts_X3_explains_0 (sx : QX) : ∀ q ∈ t_X3_explains_0, q_Snd sx RX3 cX3_explains 3 (some .boolean) q.1 q.2 := List.forall_mem_cons.mpr ⟨s_iconst d_X3_explains_0 rfl, List.forall_mem_cons.mpr ⟨s_istore_n d_X3_explains_1 rfl (by decide), List.forall_mem_cons.mpr ⟨s_iload_n d_X3_explains_2 rfl, List.forall_mem_cons.mpr ⟨s_aload_n d_X3_explains_3 rfl, List.forall_mem_cons.mpr ⟨s_gf d_X3_explains_4 rfl (by decide) n_X3 in_X3 rfl k_1_113, List.forall_mem_cons.mpr ⟨s_gf d_X3_explains_7 rfl (by decide) n_X0 in_X0 rfl k_1_52, List.forall_mem_cons.mpr ⟨s_ic_ge d_X3_explains_10 (by decide), List.forall_mem_cons.mpr ⟨s_aload_n d_X3_explains_13 rfl, List.forall_mem_cons.mpr ⟨s_gf d_X3_explains_14 rfl (by decide) n_X3 in_X3 rfl k_1_122, List.forall_mem_cons.mpr ⟨s_iload_n d_X3_explains_17 rfl, List.forall_mem_cons.mpr ⟨s_cN (host := "StoneApologies") rfl d_X3_explains_18 (List.mem_of_getElem? (i := 10) rfl) k_2_57 k_1_1 k_2_58 ⟨by decide, by decide⟩ (by decide +kernel) (by decide), List.forall_mem_cons.mpr ⟨s_iconst d_X3_explains_21 rfl, fun _ h => absurd h List.not_mem_nil⟩⟩⟩⟩⟩⟩⟩⟩⟩⟩⟩⟩
def t_X3_explains_1 : List (Nat × QO) := [(22, o_ic (fun x y => decide (x ≠ y)) 36 25), (25, o_al 0 26), (26, o_il 1 27), (27, o_il 2 28), (28, o_cV 1 3 45 4 3 31), (31, o_if (fun x => decide (x ≠ 0)) 36 34), (34, o_k 0 35), (35, o_ir true), (36, o_inc 2 1 39), (39, o_goto 2), (42, o_k 1 43), (43, o_ir true)]
theorem ts_X3_explains_1 (sx : QX) : ∀ q ∈ t_X3_explains_1, q_Snd sx RX3 cX3_explains 3 (some .boolean) q.1 q.2 := List.forall_mem_cons.mpr ⟨s_ic_ne d_X3_explains_22 (by decide), List.forall_mem_cons.mpr ⟨s_aload_n d_X3_explains_25 rfl, List.forall_mem_cons.mpr ⟨s_iload_n d_X3_explains_26 rfl, List.forall_mem_cons.mpr ⟨s_iload_n d_X3_explains_27 rfl, List.forall_mem_cons.mpr ⟨s_cV (T := TX3) (N := 8) rfl d_X3_explains_28 rfl k_3_190 k_3_192 k_0_17 k_1_4 k_3_193 ⟨by decide, by decide⟩ (by decide +kernel) (by decide), List.forall_mem_cons.mpr ⟨s_if_ne d_X3_explains_31 (by decide), List.forall_mem_cons.mpr ⟨s_iconst d_X3_explains_34 rfl, List.forall_mem_cons.mpr ⟨s_zr d_X3_explains_35 rfl, List.forall_mem_cons.mpr ⟨s_iinc d_X3_explains_36 rfl (by decide), List.forall_mem_cons.mpr ⟨s_goto d_X3_explains_39 (by decide), List.forall_mem_cons.mpr ⟨s_iconst d_X3_explains_42 rfl, List.forall_mem_cons.mpr ⟨s_zr d_X3_explains_43 rfl, fun _ h => absurd h List.not_mem_nil⟩⟩⟩⟩⟩⟩⟩⟩⟩⟩⟩⟩
def t_X3_explains (pc : Nat) : Option QO := cond (Nat.ble pc 21) (q_look (t_X3_explains_0) pc) (q_look (t_X3_explains_1) pc)
theorem ts_X3_explains (sx : QX) (pc : Nat) : ∀ o, t_X3_explains pc = some o → q_Snd sx RX3 cX3_explains 3 (some .boolean) pc o := by
  unfold t_X3_explains
  exact q_cb (q_look_all (ts_X3_explains_0 sx)) (q_look_all (ts_X3_explains_1 sx))
theorem d_X3_explainsOne_0 : decode cX3_explainsOne 0 = .ok (.iconst 0, 1) := by decide +kernel
theorem d_X3_explainsOne_1 : decode cX3_explainsOne 1 = .ok (.istore_n 3, 1) := by decide +kernel
theorem d_X3_explainsOne_2 : decode cX3_explainsOne 2 = .ok (.iload_n 3, 1) := by decide +kernel
theorem d_X3_explainsOne_3 : decode cX3_explainsOne 3 = .ok (.aload_n 0, 1) := by decide +kernel
theorem d_X3_explainsOne_4 : decode cX3_explainsOne 4 = .ok (.getfield 30, 3) := by decide +kernel
theorem d_X3_explainsOne_7 : decode cX3_explainsOne 7 = .ok (.getfield 61, 3) := by decide +kernel
theorem d_X3_explainsOne_10 : decode cX3_explainsOne 10 = .ok (.if_icmp .ge 37, 3) := by decide +kernel
theorem d_X3_explainsOne_13 : decode cX3_explainsOne 13 = .ok (.iload_n 1, 1) := by decide +kernel
theorem d_X3_explainsOne_14 : decode cX3_explainsOne 14 = .ok (.iload_n 3, 1) := by decide +kernel
theorem d_X3_explainsOne_15 : decode cX3_explainsOne 15 = .ok (.ishr, 1) := by decide +kernel
theorem d_X3_explainsOne_16 : decode cX3_explainsOne 16 = .ok (.iconst 1, 1) := by decide +kernel
theorem d_X3_explainsOne_17 : decode cX3_explainsOne 17 = .ok (.iand, 1) := by decide +kernel
theorem d_X3_explainsOne_18 : decode cX3_explainsOne 18 = .ok (.iconst 1, 1) := by decide +kernel
theorem d_X3_explainsOne_19 : decode cX3_explainsOne 19 = .ok (.if_icmp .ne 22, 3) := by decide +kernel
theorem d_X3_explainsOne_22 : decode cX3_explainsOne 22 = .ok (.aload_n 0, 1) := by decide +kernel
theorem d_X3_explainsOne_23 : decode cX3_explainsOne 23 = .ok (.iload_n 3, 1) := by decide +kernel
theorem d_X3_explainsOne_24 : decode cX3_explainsOne 24 = .ok (.iload_n 2, 1) := by decide +kernel
theorem d_X3_explainsOne_25 : decode cX3_explainsOne 25 = .ok (.aload_n 0, 1) := by decide +kernel
theorem d_X3_explainsOne_26 : decode cX3_explainsOne 26 = .ok (.getfield 18, 3) := by decide +kernel
theorem d_X3_explainsOne_29 : decode cX3_explainsOne 29 = .ok (.iload_n 2, 1) := by decide +kernel
theorem d_X3_explainsOne_30 : decode cX3_explainsOne 30 = .ok (.invokestatic 54, 3) := by decide +kernel
theorem d_X3_explainsOne_33 : decode cX3_explainsOne 33 = .ok (.invokevirtual 111, 3) := by decide +kernel
theorem d_X3_explainsOne_36 : decode cX3_explainsOne 36 = .ok (.ifCond .eq 5, 3) := by decide +kernel
theorem d_X3_explainsOne_39 : decode cX3_explainsOne 39 = .ok (.iconst 1, 1) := by decide +kernel
theorem d_X3_explainsOne_40 : decode cX3_explainsOne 40 = .ok (.ireturn, 1) := by decide +kernel
theorem d_X3_explainsOne_41 : decode cX3_explainsOne 41 = .ok (.iinc 3 1, 3) := by decide +kernel
theorem d_X3_explainsOne_44 : decode cX3_explainsOne 44 = .ok (.goto (-42), 3) := by decide +kernel
theorem d_X3_explainsOne_47 : decode cX3_explainsOne 47 = .ok (.iconst 0, 1) := by decide +kernel
theorem d_X3_explainsOne_48 : decode cX3_explainsOne 48 = .ok (.ireturn, 1) := by decide +kernel
def t_X3_explainsOne_0 : List (Nat × QO) := [(0, o_k 0 1), (1, o_is 3 2), (2, o_il 3 3), (3, o_al 0 4), (4, o_gf 3 0 7), (7, o_gf 0 2 10), (10, o_ic (fun x y => decide (y ≤ x)) 47 13), (13, o_il 1 14), (14, o_il 3 15), (15, o_b (fun x y => x >>> (y &&& 31)) 16), (16, o_k 1 17), (17, o_b (fun x y => x &&& y) 18)]
theorem ts_X3_explainsOne_0 (sx : QX) : ∀ q ∈ t_X3_explainsOne_0, q_Snd sx RX3 cX3_explainsOne 4 (some .boolean) q.1 q.2 := List.forall_mem_cons.mpr ⟨s_iconst d_X3_explainsOne_0 rfl, List.forall_mem_cons.mpr ⟨s_istore_n d_X3_explainsOne_1 rfl (by decide), List.forall_mem_cons.mpr ⟨s_iload_n d_X3_explainsOne_2 rfl, List.forall_mem_cons.mpr ⟨s_aload_n d_X3_explainsOne_3 rfl, List.forall_mem_cons.mpr ⟨s_gf d_X3_explainsOne_4 rfl (by decide) n_X3 in_X3 rfl k_1_113, List.forall_mem_cons.mpr ⟨s_gf d_X3_explainsOne_7 rfl (by decide) n_X0 in_X0 rfl k_1_60, List.forall_mem_cons.mpr ⟨s_ic_ge d_X3_explainsOne_10 (by decide), List.forall_mem_cons.mpr ⟨s_iload_n d_X3_explainsOne_13 rfl, List.forall_mem_cons.mpr ⟨s_iload_n d_X3_explainsOne_14 rfl, List.forall_mem_cons.mpr ⟨s_ishr d_X3_explainsOne_15, List.forall_mem_cons.mpr ⟨s_iconst d_X3_explainsOne_16 rfl, List.forall_mem_cons.mpr ⟨s_iand d_X3_explainsOne_17, fun _ h => absurd h List.not_mem_nil⟩⟩⟩⟩⟩⟩⟩⟩⟩⟩⟩⟩
def t_X3_explainsOne_1 : List (Nat × QO) := [(18, o_k 1 19), (19, o_ic (fun x y => decide (x ≠ y)) 41 22), (22, o_al 0 23), (23, o_il 3 24), (24, o_il 2 25), (25, o_al 0 26), (26, o_gf 3 4 29), (29, o_il 2 30), (30, o_cS 1 97 2 2 33), (33, o_cV 1 3 36 5 4 36), (36, o_if (fun x => decide (x = 0)) 41 39), (39, o_k 1 40)]
theorem ts_X3_explainsOne_1 (sx : QX) : ∀ q ∈ t_X3_explainsOne_1, q_Snd sx RX3 cX3_explainsOne 4 (some .boolean) q.1 q.2 := List.forall_mem_cons.mpr ⟨s_iconst d_X3_explainsOne_18 rfl, List.forall_mem_cons.mpr ⟨s_ic_ne d_X3_explainsOne_19 (by decide), List.forall_mem_cons.mpr ⟨s_aload_n d_X3_explainsOne_22 rfl, List.forall_mem_cons.mpr ⟨s_iload_n d_X3_explainsOne_23 rfl, List.forall_mem_cons.mpr ⟨s_iload_n d_X3_explainsOne_24 rfl, List.forall_mem_cons.mpr ⟨s_aload_n d_X3_explainsOne_25 rfl, List.forall_mem_cons.mpr ⟨s_gf d_X3_explainsOne_26 rfl (by decide) n_X3 in_X3 rfl k_1_124, List.forall_mem_cons.mpr ⟨s_iload_n d_X3_explainsOne_29 rfl, List.forall_mem_cons.mpr ⟨s_cN (host := "StoneApologies") rfl d_X3_explainsOne_30 (List.mem_of_getElem? (i := 10) rfl) k_2_57 k_1_1 k_2_58 ⟨by decide, by decide⟩ (by decide +kernel) (by decide), List.forall_mem_cons.mpr ⟨s_cV (T := TX3) (N := 8) rfl d_X3_explainsOne_33 rfl k_3_48 k_3_50 k_0_13 k_1_4 k_3_51 ⟨by decide, by decide⟩ (by decide +kernel) (by decide), List.forall_mem_cons.mpr ⟨s_if_eq d_X3_explainsOne_36 (by decide), List.forall_mem_cons.mpr ⟨s_iconst d_X3_explainsOne_39 rfl, fun _ h => absurd h List.not_mem_nil⟩⟩⟩⟩⟩⟩⟩⟩⟩⟩⟩⟩
def t_X3_explainsOne_2 : List (Nat × QO) := [(40, o_ir true), (41, o_inc 3 1 44), (44, o_goto 2), (47, o_k 0 48), (48, o_ir true)]
theorem ts_X3_explainsOne_2 (sx : QX) : ∀ q ∈ t_X3_explainsOne_2, q_Snd sx RX3 cX3_explainsOne 4 (some .boolean) q.1 q.2 := List.forall_mem_cons.mpr ⟨s_zr d_X3_explainsOne_40 rfl, List.forall_mem_cons.mpr ⟨s_iinc d_X3_explainsOne_41 rfl (by decide), List.forall_mem_cons.mpr ⟨s_goto d_X3_explainsOne_44 (by decide), List.forall_mem_cons.mpr ⟨s_iconst d_X3_explainsOne_47 rfl, List.forall_mem_cons.mpr ⟨s_zr d_X3_explainsOne_48 rfl, fun _ h => absurd h List.not_mem_nil⟩⟩⟩⟩⟩
def t_X3_explainsOne (pc : Nat) : Option QO := cond (Nat.ble pc 17) (q_look (t_X3_explainsOne_0) pc) (cond (Nat.ble pc 39) (q_look (t_X3_explainsOne_1) pc) (q_look (t_X3_explainsOne_2) pc))
theorem ts_X3_explainsOne (sx : QX) (pc : Nat) : ∀ o, t_X3_explainsOne pc = some o → q_Snd sx RX3 cX3_explainsOne 4 (some .boolean) pc o := by
  unfold t_X3_explainsOne
  exact q_cb (q_look_all (ts_X3_explainsOne_0 sx)) (q_cb (q_look_all (ts_X3_explainsOne_1 sx)) (q_look_all (ts_X3_explainsOne_2 sx)))
theorem d_X3_softerBy_0 : decode cX3_softerBy 0 = .ok (.aload_n 0, 1) := by decide +kernel
theorem d_X3_softerBy_1 : decode cX3_softerBy 1 = .ok (.iload_n 1, 1) := by decide +kernel
theorem d_X3_softerBy_2 : decode cX3_softerBy 2 = .ok (.iload_n 2, 1) := by decide +kernel
theorem d_X3_softerBy_3 : decode cX3_softerBy 3 = .ok (.iload_n 3, 1) := by decide +kernel
theorem d_X3_softerBy_4 : decode cX3_softerBy 4 = .ok (.invokevirtual 86, 3) := by decide +kernel
theorem d_X3_softerBy_7 : decode cX3_softerBy 7 = .ok (.istore 5, 2) := by decide +kernel
theorem d_X3_softerBy_9 : decode cX3_softerBy 9 = .ok (.iconst 0, 1) := by decide +kernel
theorem d_X3_softerBy_10 : decode cX3_softerBy 10 = .ok (.istore 6, 2) := by decide +kernel
theorem d_X3_softerBy_12 : decode cX3_softerBy 12 = .ok (.iconst 0, 1) := by decide +kernel
theorem d_X3_softerBy_13 : decode cX3_softerBy 13 = .ok (.istore 7, 2) := by decide +kernel
theorem d_X3_softerBy_15 : decode cX3_softerBy 15 = .ok (.iload 7, 2) := by decide +kernel
theorem d_X3_softerBy_17 : decode cX3_softerBy 17 = .ok (.bipush 8, 2) := by decide +kernel
theorem d_X3_softerBy_19 : decode cX3_softerBy 19 = .ok (.if_icmp .ge 34, 3) := by decide +kernel
theorem d_X3_softerBy_22 : decode cX3_softerBy 22 = .ok (.iload 4, 2) := by decide +kernel
theorem d_X3_softerBy_24 : decode cX3_softerBy 24 = .ok (.iload 7, 2) := by decide +kernel
theorem d_X3_softerBy_26 : decode cX3_softerBy 26 = .ok (.ishr, 1) := by decide +kernel
theorem d_X3_softerBy_27 : decode cX3_softerBy 27 = .ok (.iconst 1, 1) := by decide +kernel
theorem d_X3_softerBy_28 : decode cX3_softerBy 28 = .ok (.iand, 1) := by decide +kernel
theorem d_X3_softerBy_29 : decode cX3_softerBy 29 = .ok (.iconst 1, 1) := by decide +kernel
theorem d_X3_softerBy_30 : decode cX3_softerBy 30 = .ok (.if_icmp .ne 17, 3) := by decide +kernel
theorem d_X3_softerBy_33 : decode cX3_softerBy 33 = .ok (.iload 6, 2) := by decide +kernel
theorem d_X3_softerBy_35 : decode cX3_softerBy 35 = .ok (.iconst 0, 1) := by decide +kernel
theorem d_X3_softerBy_36 : decode cX3_softerBy 36 = .ok (.iload 5, 2) := by decide +kernel
theorem d_X3_softerBy_38 : decode cX3_softerBy 38 = .ok (.iload 7, 2) := by decide +kernel
theorem d_X3_softerBy_40 : decode cX3_softerBy 40 = .ok (.isub, 1) := by decide +kernel
theorem d_X3_softerBy_41 : decode cX3_softerBy 41 = .ok (.invokestatic 78, 3) := by decide +kernel
theorem d_X3_softerBy_44 : decode cX3_softerBy 44 = .ok (.iadd, 1) := by decide +kernel
theorem d_X3_softerBy_45 : decode cX3_softerBy 45 = .ok (.istore 6, 2) := by decide +kernel
theorem d_X3_softerBy_47 : decode cX3_softerBy 47 = .ok (.iinc 7 1, 3) := by decide +kernel
theorem d_X3_softerBy_50 : decode cX3_softerBy 50 = .ok (.goto (-35), 3) := by decide +kernel
theorem d_X3_softerBy_53 : decode cX3_softerBy 53 = .ok (.iload 6, 2) := by decide +kernel
theorem d_X3_softerBy_55 : decode cX3_softerBy 55 = .ok (.ireturn, 1) := by decide +kernel
def t_X3_softerBy_0 : List (Nat × QO) := [(0, o_al 0 1), (1, o_il 1 2), (2, o_il 2 3), (3, o_il 3 4), (4, o_cV 1 3 26 5 4 7), (7, o_is 5 9), (9, o_k 0 10), (10, o_is 6 12), (12, o_k 0 13), (13, o_is 7 15), (15, o_il 7 17), (17, o_k 8 19)]
theorem ts_X3_softerBy_0 (sx : QX) : ∀ q ∈ t_X3_softerBy_0, q_Snd sx RX3 cX3_softerBy 8 (some .int) q.1 q.2 := List.forall_mem_cons.mpr ⟨s_aload_n d_X3_softerBy_0 rfl, List.forall_mem_cons.mpr ⟨s_iload_n d_X3_softerBy_1 rfl, List.forall_mem_cons.mpr ⟨s_iload_n d_X3_softerBy_2 rfl, List.forall_mem_cons.mpr ⟨s_iload_n d_X3_softerBy_3 rfl, List.forall_mem_cons.mpr ⟨s_cV (T := TX3) (N := 8) rfl d_X3_softerBy_4 rfl k_3_9 k_2_219 k_2_220 k_1_4 k_2_221 ⟨by decide, by decide⟩ (by decide +kernel) (by decide), List.forall_mem_cons.mpr ⟨s_istore d_X3_softerBy_7 (by decide), List.forall_mem_cons.mpr ⟨s_iconst d_X3_softerBy_9 rfl, List.forall_mem_cons.mpr ⟨s_istore d_X3_softerBy_10 (by decide), List.forall_mem_cons.mpr ⟨s_iconst d_X3_softerBy_12 rfl, List.forall_mem_cons.mpr ⟨s_istore d_X3_softerBy_13 (by decide), List.forall_mem_cons.mpr ⟨s_iload d_X3_softerBy_15, List.forall_mem_cons.mpr ⟨s_bipush d_X3_softerBy_17 rfl, fun _ h => absurd h List.not_mem_nil⟩⟩⟩⟩⟩⟩⟩⟩⟩⟩⟩⟩
def t_X3_softerBy_1 : List (Nat × QO) := [(19, o_ic (fun x y => decide (y ≤ x)) 53 22), (22, o_il 4 24), (24, o_il 7 26), (26, o_b (fun x y => x >>> (y &&& 31)) 27), (27, o_k 1 28), (28, o_b (fun x y => x &&& y) 29), (29, o_k 1 30), (30, o_ic (fun x y => decide (x ≠ y)) 47 33), (33, o_il 6 35), (35, o_k 0 36), (36, o_il 5 38), (38, o_il 7 40)]
theorem ts_X3_softerBy_1 (sx : QX) : ∀ q ∈ t_X3_softerBy_1, q_Snd sx RX3 cX3_softerBy 8 (some .int) q.1 q.2 := List.forall_mem_cons.mpr ⟨s_ic_ge d_X3_softerBy_19 (by decide), List.forall_mem_cons.mpr ⟨s_iload d_X3_softerBy_22, List.forall_mem_cons.mpr ⟨s_iload d_X3_softerBy_24, List.forall_mem_cons.mpr ⟨s_ishr d_X3_softerBy_26, List.forall_mem_cons.mpr ⟨s_iconst d_X3_softerBy_27 rfl, List.forall_mem_cons.mpr ⟨s_iand d_X3_softerBy_28, List.forall_mem_cons.mpr ⟨s_iconst d_X3_softerBy_29 rfl, List.forall_mem_cons.mpr ⟨s_ic_ne d_X3_softerBy_30 (by decide), List.forall_mem_cons.mpr ⟨s_iload d_X3_softerBy_33, List.forall_mem_cons.mpr ⟨s_iconst d_X3_softerBy_35 rfl, List.forall_mem_cons.mpr ⟨s_iload d_X3_softerBy_36, List.forall_mem_cons.mpr ⟨s_iload d_X3_softerBy_38, fun _ h => absurd h List.not_mem_nil⟩⟩⟩⟩⟩⟩⟩⟩⟩⟩⟩⟩
def t_X3_softerBy_2 : List (Nat × QO) := [(40, o_b (fun x y => x - y) 41), (41, o_max 44), (44, o_b (fun x y => x + y) 45), (45, o_is 6 47), (47, o_inc 7 1 50), (50, o_goto 15), (53, o_il 6 55), (55, o_ir false)]
theorem ts_X3_softerBy_2 (sx : QX) : ∀ q ∈ t_X3_softerBy_2, q_Snd sx RX3 cX3_softerBy 8 (some .int) q.1 q.2 := List.forall_mem_cons.mpr ⟨s_isub d_X3_softerBy_40, List.forall_mem_cons.mpr ⟨s_max d_X3_softerBy_41 k_2_223 k_2_224 k_1_13 k_2_225, List.forall_mem_cons.mpr ⟨s_iadd d_X3_softerBy_44, List.forall_mem_cons.mpr ⟨s_istore d_X3_softerBy_45 (by decide), List.forall_mem_cons.mpr ⟨s_iinc d_X3_softerBy_47 rfl (by decide), List.forall_mem_cons.mpr ⟨s_goto d_X3_softerBy_50 (by decide), List.forall_mem_cons.mpr ⟨s_iload d_X3_softerBy_53, List.forall_mem_cons.mpr ⟨s_ir d_X3_softerBy_55 rfl, fun _ h => absurd h List.not_mem_nil⟩⟩⟩⟩⟩⟩⟩⟩
def t_X3_softerBy (pc : Nat) : Option QO := cond (Nat.ble pc 17) (q_look (t_X3_softerBy_0) pc) (cond (Nat.ble pc 38) (q_look (t_X3_softerBy_1) pc) (q_look (t_X3_softerBy_2) pc))
theorem ts_X3_softerBy (sx : QX) (pc : Nat) : ∀ o, t_X3_softerBy pc = some o → q_Snd sx RX3 cX3_softerBy 8 (some .int) pc o := by
  unfold t_X3_softerBy
  exact q_cb (q_look_all (ts_X3_softerBy_0 sx)) (q_cb (q_look_all (ts_X3_softerBy_1 sx)) (q_look_all (ts_X3_softerBy_2 sx)))
end
