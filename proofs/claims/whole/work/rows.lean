section
-- ===== PART A: goes FIRST, ahead of the names: the tables' words, and 'selects' of the private methods out of them =====
/-- a private method of a class that the tables say can be made, by its rows of tables_1 -/
def lw_okq (q : MethodName × Nat) : Prop := (q.1.cls ≠ "java/lang/invoke/MethodHandle" ∧ q.1.cls ≠ "java/lang/invoke/VarHandle") ∧ Cond.instantiable q.1.cls q.2 ∈ tables_1 ∧ Cond.privateMethod q.1 ∈ tables_1 ∧ Cond.instanceMethod q.1 ∈ tables_1
theorem lw_p0 : lw_okq (⟨"StoneApologies", "layOut", "()V"⟩, 9) := ⟨⟨by decide +kernel, by decide +kernel⟩, List.mem_of_getElem? (i := 16) (by decide +kernel), List.mem_of_getElem? (i := 266) (by decide +kernel), List.mem_of_getElem? (i := 267) (by decide +kernel)⟩
theorem lw_p1 : lw_okq (⟨"StoneApologies$Text", "readItem", "(LStoneApologies$Bed;)Z"⟩, 4) := ⟨⟨by decide +kernel, by decide +kernel⟩, List.mem_of_getElem? (i := 24) (by decide +kernel), List.mem_of_getElem? (i := 281) (by decide +kernel), List.mem_of_getElem? (i := 282) (by decide +kernel)⟩
theorem lw_p2 : lw_okq (⟨"StoneApologies$Text", "letterAt", "(I)I"⟩, 4) := ⟨⟨by decide +kernel, by decide +kernel⟩, List.mem_of_getElem? (i := 24) (by decide +kernel), List.mem_of_getElem? (i := 285) (by decide +kernel), List.mem_of_getElem? (i := 286) (by decide +kernel)⟩
theorem lw_p3 : lw_okq (⟨"StoneApologies$Text", "readNumbers", "()I"⟩, 4) := ⟨⟨by decide +kernel, by decide +kernel⟩, List.mem_of_getElem? (i := 24) (by decide +kernel), List.mem_of_getElem? (i := 289) (by decide +kernel), List.mem_of_getElem? (i := 290) (by decide +kernel)⟩
theorem lw_p4 : lw_okq (⟨"StoneApologies$Text", "readNumber", "()I"⟩, 4) := ⟨⟨by decide +kernel, by decide +kernel⟩, List.mem_of_getElem? (i := 24) (by decide +kernel), List.mem_of_getElem? (i := 293) (by decide +kernel), List.mem_of_getElem? (i := 294) (by decide +kernel)⟩
theorem lw_p5 : lw_okq (⟨"StoneApologies$Bed", "plainWorth", "(II)I"⟩, 12) := ⟨⟨by decide +kernel, by decide +kernel⟩, List.mem_of_getElem? (i := 45) (by decide +kernel), List.mem_of_getElem? (i := 332) (by decide +kernel), List.mem_of_getElem? (i := 333) (by decide +kernel)⟩
theorem lw_p6 : lw_okq (⟨"StoneApologies$Bed", "spokenWorth", "(IIII)I"⟩, 12) := ⟨⟨by decide +kernel, by decide +kernel⟩, List.mem_of_getElem? (i := 45) (by decide +kernel), List.mem_of_getElem? (i := 342) (by decide +kernel), List.mem_of_getElem? (i := 343) (by decide +kernel)⟩
theorem lw_p7 : lw_okq (⟨"StoneApologies", "isBlock", "(I)Z"⟩, 9) := ⟨⟨by decide +kernel, by decide +kernel⟩, List.mem_of_getElem? (i := 16) (by decide +kernel), List.mem_of_getElem? (i := 411) (by decide +kernel), List.mem_of_getElem? (i := 412) (by decide +kernel)⟩
theorem lw_p8 : lw_okq (⟨"StoneApologies", "isWord", "(I)Z"⟩, 9) := ⟨⟨by decide +kernel, by decide +kernel⟩, List.mem_of_getElem? (i := 16) (by decide +kernel), List.mem_of_getElem? (i := 420) (by decide +kernel), List.mem_of_getElem? (i := 421) (by decide +kernel)⟩
theorem lw_p9 : lw_okq (⟨"StoneApologies", "isSpeaker", "(I)Z"⟩, 9) := ⟨⟨by decide +kernel, by decide +kernel⟩, List.mem_of_getElem? (i := 16) (by decide +kernel), List.mem_of_getElem? (i := 428) (by decide +kernel), List.mem_of_getElem? (i := 429) (by decide +kernel)⟩
theorem lw_p10 : lw_okq (⟨"StoneApologies", "isSaying", "(III)Z"⟩, 9) := ⟨⟨by decide +kernel, by decide +kernel⟩, List.mem_of_getElem? (i := 16) (by decide +kernel), List.mem_of_getElem? (i := 455) (by decide +kernel), List.mem_of_getElem? (i := 456) (by decide +kernel)⟩
theorem lw_p11 : lw_okq (⟨"StoneApologies$Quarry", "hearsThrough", "(II)Z"⟩, 8) := ⟨⟨by decide +kernel, by decide +kernel⟩, List.mem_of_getElem? (i := 108) (by decide +kernel), List.mem_of_getElem? (i := 492) (by decide +kernel), List.mem_of_getElem? (i := 493) (by decide +kernel)⟩
theorem lw_p12 : lw_okq (⟨"StoneApologies$Quarry", "soften", "(II)V"⟩, 8) := ⟨⟨by decide +kernel, by decide +kernel⟩, List.mem_of_getElem? (i := 108) (by decide +kernel), List.mem_of_getElem? (i := 500) (by decide +kernel), List.mem_of_getElem? (i := 501) (by decide +kernel)⟩
theorem lw_p13 : lw_okq (⟨"StoneApologies$Quarry", "belies", "(III)Z"⟩, 8) := ⟨⟨by decide +kernel, by decide +kernel⟩, List.mem_of_getElem? (i := 108) (by decide +kernel), List.mem_of_getElem? (i := 529) (by decide +kernel), List.mem_of_getElem? (i := 530) (by decide +kernel)⟩
theorem lw_p14 : lw_okq (⟨"StoneApologies$Rows", "shift", "(IIIII)V"⟩, 2) := ⟨⟨by decide +kernel, by decide +kernel⟩, List.mem_of_getElem? (i := 169) (by decide +kernel), List.mem_of_getElem? (i := 581) (by decide +kernel), List.mem_of_getElem? (i := 582) (by decide +kernel)⟩
theorem lw_p15 : lw_okq (⟨"StoneApologies$Quarry", "dearestWord", "(II)I"⟩, 8) := ⟨⟨by decide +kernel, by decide +kernel⟩, List.mem_of_getElem? (i := 108) (by decide +kernel), List.mem_of_getElem? (i := 629) (by decide +kernel), List.mem_of_getElem? (i := 630) (by decide +kernel)⟩
def lw_privs_1 : List (MethodName × Nat) := [(⟨"StoneApologies", "layOut", "()V"⟩, 9), (⟨"StoneApologies$Text", "readItem", "(LStoneApologies$Bed;)Z"⟩, 4), (⟨"StoneApologies$Text", "letterAt", "(I)I"⟩, 4), (⟨"StoneApologies$Text", "readNumbers", "()I"⟩, 4), (⟨"StoneApologies$Text", "readNumber", "()I"⟩, 4), (⟨"StoneApologies$Bed", "plainWorth", "(II)I"⟩, 12), (⟨"StoneApologies$Bed", "spokenWorth", "(IIII)I"⟩, 12), (⟨"StoneApologies", "isBlock", "(I)Z"⟩, 9), (⟨"StoneApologies", "isWord", "(I)Z"⟩, 9), (⟨"StoneApologies", "isSpeaker", "(I)Z"⟩, 9), (⟨"StoneApologies", "isSaying", "(III)Z"⟩, 9), (⟨"StoneApologies$Quarry", "hearsThrough", "(II)Z"⟩, 8), (⟨"StoneApologies$Quarry", "soften", "(II)V"⟩, 8), (⟨"StoneApologies$Quarry", "belies", "(III)Z"⟩, 8), (⟨"StoneApologies$Rows", "shift", "(IIIII)V"⟩, 2), (⟨"StoneApologies$Quarry", "dearestWord", "(II)I"⟩, 8)]
theorem lw_r1 : ∀ q ∈ lw_privs_1, lw_okq q := List.forall_mem_cons.mpr ⟨lw_p0, List.forall_mem_cons.mpr ⟨lw_p1, List.forall_mem_cons.mpr ⟨lw_p2, List.forall_mem_cons.mpr ⟨lw_p3, List.forall_mem_cons.mpr ⟨lw_p4, List.forall_mem_cons.mpr ⟨lw_p5, List.forall_mem_cons.mpr ⟨lw_p6, List.forall_mem_cons.mpr ⟨lw_p7, List.forall_mem_cons.mpr ⟨lw_p8, List.forall_mem_cons.mpr ⟨lw_p9, List.forall_mem_cons.mpr ⟨lw_p10, List.forall_mem_cons.mpr ⟨lw_p11, List.forall_mem_cons.mpr ⟨lw_p12, List.forall_mem_cons.mpr ⟨lw_p13, List.forall_mem_cons.mpr ⟨lw_p14, List.forall_mem_cons.mpr ⟨lw_p15, fun _ h => absurd h List.not_mem_nil⟩⟩⟩⟩⟩⟩⟩⟩⟩⟩⟩⟩⟩⟩⟩⟩
theorem lw_p16 : lw_okq (⟨"StoneApologies$Quarry", "harmOf", "(II)I"⟩, 8) := ⟨⟨by decide +kernel, by decide +kernel⟩, List.mem_of_getElem? (i := 108) (by decide +kernel), List.mem_of_getElem? (i := 652) (by decide +kernel), List.mem_of_getElem? (i := 653) (by decide +kernel)⟩
theorem lw_p17 : lw_okq (⟨"StoneApologies$Quarry", "explainsOne", "(II)Z"⟩, 8) := ⟨⟨by decide +kernel, by decide +kernel⟩, List.mem_of_getElem? (i := 108) (by decide +kernel), List.mem_of_getElem? (i := 671) (by decide +kernel), List.mem_of_getElem? (i := 672) (by decide +kernel)⟩
theorem lw_p18 : lw_okq (⟨"StoneApologiesModel", "starts", "()V"⟩, 30) := ⟨⟨by decide +kernel, by decide +kernel⟩, List.mem_of_getElem? (i := 724) (by decide +kernel), List.mem_of_getElem? (i := 730) (by decide +kernel), List.mem_of_getElem? (i := 731) (by decide +kernel)⟩
theorem lw_p19 : lw_okq (⟨"StoneApologiesModel", "addsBlock", "(II)V"⟩, 30) := ⟨⟨by decide +kernel, by decide +kernel⟩, List.mem_of_getElem? (i := 724) (by decide +kernel), List.mem_of_getElem? (i := 734) (by decide +kernel), List.mem_of_getElem? (i := 735) (by decide +kernel)⟩
theorem lw_p20 : lw_okq (⟨"StoneApologiesModel", "addsWord", "(I)V"⟩, 30) := ⟨⟨by decide +kernel, by decide +kernel⟩, List.mem_of_getElem? (i := 724) (by decide +kernel), List.mem_of_getElem? (i := 738) (by decide +kernel), List.mem_of_getElem? (i := 739) (by decide +kernel)⟩
theorem lw_p21 : lw_okq (⟨"StoneApologiesModel", "addsSpeaker", "(II)V"⟩, 30) := ⟨⟨by decide +kernel, by decide +kernel⟩, List.mem_of_getElem? (i := 724) (by decide +kernel), List.mem_of_getElem? (i := 742) (by decide +kernel), List.mem_of_getElem? (i := 743) (by decide +kernel)⟩
theorem lw_p22 : lw_okq (⟨"StoneApologiesModel", "begins", "()V"⟩, 30) := ⟨⟨by decide +kernel, by decide +kernel⟩, List.mem_of_getElem? (i := 724) (by decide +kernel), List.mem_of_getElem? (i := 746) (by decide +kernel), List.mem_of_getElem? (i := 747) (by decide +kernel)⟩
theorem lw_p23 : lw_okq (⟨"StoneApologiesModel", "faultOf", "()I"⟩, 30) := ⟨⟨by decide +kernel, by decide +kernel⟩, List.mem_of_getElem? (i := 724) (by decide +kernel), List.mem_of_getElem? (i := 858) (by decide +kernel), List.mem_of_getElem? (i := 859) (by decide +kernel)⟩
theorem lw_p24 : lw_okq (⟨"StoneApologiesModel", "takesItem", "()Z"⟩, 30) := ⟨⟨by decide +kernel, by decide +kernel⟩, List.mem_of_getElem? (i := 724) (by decide +kernel), List.mem_of_getElem? (i := 862) (by decide +kernel), List.mem_of_getElem? (i := 863) (by decide +kernel)⟩
theorem lw_p25 : lw_okq (⟨"StoneApologiesModel", "letterAt", "(I)I"⟩, 30) := ⟨⟨by decide +kernel, by decide +kernel⟩, List.mem_of_getElem? (i := 724) (by decide +kernel), List.mem_of_getElem? (i := 866) (by decide +kernel), List.mem_of_getElem? (i := 867) (by decide +kernel)⟩
theorem lw_p26 : lw_okq (⟨"StoneApologiesModel", "takesBlock", "()Z"⟩, 30) := ⟨⟨by decide +kernel, by decide +kernel⟩, List.mem_of_getElem? (i := 724) (by decide +kernel), List.mem_of_getElem? (i := 870) (by decide +kernel), List.mem_of_getElem? (i := 871) (by decide +kernel)⟩
theorem lw_p27 : lw_okq (⟨"StoneApologiesModel", "takesNumber", "(III)Z"⟩, 30) := ⟨⟨by decide +kernel, by decide +kernel⟩, List.mem_of_getElem? (i := 724) (by decide +kernel), List.mem_of_getElem? (i := 874) (by decide +kernel), List.mem_of_getElem? (i := 875) (by decide +kernel)⟩
theorem lw_p28 : lw_okq (⟨"StoneApologiesModel", "takesWord", "()Z"⟩, 30) := ⟨⟨by decide +kernel, by decide +kernel⟩, List.mem_of_getElem? (i := 724) (by decide +kernel), List.mem_of_getElem? (i := 880) (by decide +kernel), List.mem_of_getElem? (i := 881) (by decide +kernel)⟩
theorem lw_p29 : lw_okq (⟨"StoneApologiesModel", "takesSpeaker", "()Z"⟩, 30) := ⟨⟨by decide +kernel, by decide +kernel⟩, List.mem_of_getElem? (i := 724) (by decide +kernel), List.mem_of_getElem? (i := 884) (by decide +kernel), List.mem_of_getElem? (i := 885) (by decide +kernel)⟩
theorem lw_p30 : lw_okq (⟨"StoneApologiesModel", "takesFrost", "()Z"⟩, 30) := ⟨⟨by decide +kernel, by decide +kernel⟩, List.mem_of_getElem? (i := 724) (by decide +kernel), List.mem_of_getElem? (i := 888) (by decide +kernel), List.mem_of_getElem? (i := 889) (by decide +kernel)⟩
theorem lw_p31 : lw_okq (⟨"StoneApologiesModel", "takesPromise", "()Z"⟩, 30) := ⟨⟨by decide +kernel, by decide +kernel⟩, List.mem_of_getElem? (i := 724) (by decide +kernel), List.mem_of_getElem? (i := 892) (by decide +kernel), List.mem_of_getElem? (i := 893) (by decide +kernel)⟩
def lw_privs_2 : List (MethodName × Nat) := [(⟨"StoneApologies$Quarry", "harmOf", "(II)I"⟩, 8), (⟨"StoneApologies$Quarry", "explainsOne", "(II)Z"⟩, 8), (⟨"StoneApologiesModel", "starts", "()V"⟩, 30), (⟨"StoneApologiesModel", "addsBlock", "(II)V"⟩, 30), (⟨"StoneApologiesModel", "addsWord", "(I)V"⟩, 30), (⟨"StoneApologiesModel", "addsSpeaker", "(II)V"⟩, 30), (⟨"StoneApologiesModel", "begins", "()V"⟩, 30), (⟨"StoneApologiesModel", "faultOf", "()I"⟩, 30), (⟨"StoneApologiesModel", "takesItem", "()Z"⟩, 30), (⟨"StoneApologiesModel", "letterAt", "(I)I"⟩, 30), (⟨"StoneApologiesModel", "takesBlock", "()Z"⟩, 30), (⟨"StoneApologiesModel", "takesNumber", "(III)Z"⟩, 30), (⟨"StoneApologiesModel", "takesWord", "()Z"⟩, 30), (⟨"StoneApologiesModel", "takesSpeaker", "()Z"⟩, 30), (⟨"StoneApologiesModel", "takesFrost", "()Z"⟩, 30), (⟨"StoneApologiesModel", "takesPromise", "()Z"⟩, 30)]
theorem lw_r2 : ∀ q ∈ lw_privs_2, lw_okq q := List.forall_mem_cons.mpr ⟨lw_p16, List.forall_mem_cons.mpr ⟨lw_p17, List.forall_mem_cons.mpr ⟨lw_p18, List.forall_mem_cons.mpr ⟨lw_p19, List.forall_mem_cons.mpr ⟨lw_p20, List.forall_mem_cons.mpr ⟨lw_p21, List.forall_mem_cons.mpr ⟨lw_p22, List.forall_mem_cons.mpr ⟨lw_p23, List.forall_mem_cons.mpr ⟨lw_p24, List.forall_mem_cons.mpr ⟨lw_p25, List.forall_mem_cons.mpr ⟨lw_p26, List.forall_mem_cons.mpr ⟨lw_p27, List.forall_mem_cons.mpr ⟨lw_p28, List.forall_mem_cons.mpr ⟨lw_p29, List.forall_mem_cons.mpr ⟨lw_p30, List.forall_mem_cons.mpr ⟨lw_p31, fun _ h => absurd h List.not_mem_nil⟩⟩⟩⟩⟩⟩⟩⟩⟩⟩⟩⟩⟩⟩⟩⟩
theorem lw_p32 : lw_okq (⟨"StoneApologiesModel", "isBlock", "(I)Z"⟩, 30) := ⟨⟨by decide +kernel, by decide +kernel⟩, List.mem_of_getElem? (i := 724) (by decide +kernel), List.mem_of_getElem? (i := 904) (by decide +kernel), List.mem_of_getElem? (i := 905) (by decide +kernel)⟩
theorem lw_p33 : lw_okq (⟨"StoneApologiesModel", "isWord", "(I)Z"⟩, 30) := ⟨⟨by decide +kernel, by decide +kernel⟩, List.mem_of_getElem? (i := 724) (by decide +kernel), List.mem_of_getElem? (i := 912) (by decide +kernel), List.mem_of_getElem? (i := 913) (by decide +kernel)⟩
theorem lw_p34 : lw_okq (⟨"StoneApologiesModel", "isSpeaker", "(I)Z"⟩, 30) := ⟨⟨by decide +kernel, by decide +kernel⟩, List.mem_of_getElem? (i := 724) (by decide +kernel), List.mem_of_getElem? (i := 920) (by decide +kernel), List.mem_of_getElem? (i := 921) (by decide +kernel)⟩
theorem lw_p35 : lw_okq (⟨"StoneApologiesModel", "worthOf", "(IIII)I"⟩, 30) := ⟨⟨by decide +kernel, by decide +kernel⟩, List.mem_of_getElem? (i := 724) (by decide +kernel), List.mem_of_getElem? (i := 936) (by decide +kernel), List.mem_of_getElem? (i := 937) (by decide +kernel)⟩
theorem lw_p36 : lw_okq (⟨"StoneApologiesModel", "spoken", "(III)I"⟩, 30) := ⟨⟨by decide +kernel, by decide +kernel⟩, List.mem_of_getElem? (i := 724) (by decide +kernel), List.mem_of_getElem? (i := 940) (by decide +kernel), List.mem_of_getElem? (i := 941) (by decide +kernel)⟩
theorem lw_p37 : lw_okq (⟨"StoneApologiesModel", "byKind", "(II)I"⟩, 30) := ⟨⟨by decide +kernel, by decide +kernel⟩, List.mem_of_getElem? (i := 724) (by decide +kernel), List.mem_of_getElem? (i := 944) (by decide +kernel), List.mem_of_getElem? (i := 945) (by decide +kernel)⟩
theorem lw_p38 : lw_okq (⟨"StoneApologiesModel", "heardOf", "(III)I"⟩, 30) := ⟨⟨by decide +kernel, by decide +kernel⟩, List.mem_of_getElem? (i := 724) (by decide +kernel), List.mem_of_getElem? (i := 948) (by decide +kernel), List.mem_of_getElem? (i := 949) (by decide +kernel)⟩
theorem lw_p39 : lw_okq (⟨"StoneApologiesModel", "canSay", "(III)Z"⟩, 30) := ⟨⟨by decide +kernel, by decide +kernel⟩, List.mem_of_getElem? (i := 724) (by decide +kernel), List.mem_of_getElem? (i := 959) (by decide +kernel), List.mem_of_getElem? (i := 960) (by decide +kernel)⟩
theorem lw_p40 : lw_okq (⟨"StoneApologiesModel", "inBed", "(II)Z"⟩, 30) := ⟨⟨by decide +kernel, by decide +kernel⟩, List.mem_of_getElem? (i := 724) (by decide +kernel), List.mem_of_getElem? (i := 963) (by decide +kernel), List.mem_of_getElem? (i := 964) (by decide +kernel)⟩
theorem lw_p41 : lw_okq (⟨"StoneApologiesModel", "minds", "()V"⟩, 30) := ⟨⟨by decide +kernel, by decide +kernel⟩, List.mem_of_getElem? (i := 724) (by decide +kernel), List.mem_of_getElem? (i := 967) (by decide +kernel), List.mem_of_getElem? (i := 968) (by decide +kernel)⟩
theorem lw_p42 : lw_okq (⟨"StoneApologiesModel", "copy", "(II)V"⟩, 30) := ⟨⟨by decide +kernel, by decide +kernel⟩, List.mem_of_getElem? (i := 724) (by decide +kernel), List.mem_of_getElem? (i := 971) (by decide +kernel), List.mem_of_getElem? (i := 972) (by decide +kernel)⟩
theorem lw_p43 : lw_okq (⟨"StoneApologiesModel", "says", "(IIII)V"⟩, 30) := ⟨⟨by decide +kernel, by decide +kernel⟩, List.mem_of_getElem? (i := 724) (by decide +kernel), List.mem_of_getElem? (i := 975) (by decide +kernel), List.mem_of_getElem? (i := 976) (by decide +kernel)⟩
theorem lw_p44 : lw_okq (⟨"StoneApologiesModel", "hears", "(III)Z"⟩, 30) := ⟨⟨by decide +kernel, by decide +kernel⟩, List.mem_of_getElem? (i := 724) (by decide +kernel), List.mem_of_getElem? (i := 979) (by decide +kernel), List.mem_of_getElem? (i := 980) (by decide +kernel)⟩
theorem lw_p45 : lw_okq (⟨"StoneApologiesModel", "comes", "(II)V"⟩, 30) := ⟨⟨by decide +kernel, by decide +kernel⟩, List.mem_of_getElem? (i := 724) (by decide +kernel), List.mem_of_getElem? (i := 983) (by decide +kernel), List.mem_of_getElem? (i := 984) (by decide +kernel)⟩
theorem lw_p46 : lw_okq (⟨"StoneApologiesModel", "takesFor", "(III)V"⟩, 30) := ⟨⟨by decide +kernel, by decide +kernel⟩, List.mem_of_getElem? (i := 724) (by decide +kernel), List.mem_of_getElem? (i := 996) (by decide +kernel), List.mem_of_getElem? (i := 997) (by decide +kernel)⟩
theorem lw_p47 : lw_okq (⟨"StoneApologiesModel", "isElse", "(III)Z"⟩, 30) := ⟨⟨by decide +kernel, by decide +kernel⟩, List.mem_of_getElem? (i := 724) (by decide +kernel), List.mem_of_getElem? (i := 1000) (by decide +kernel), List.mem_of_getElem? (i := 1001) (by decide +kernel)⟩
def lw_privs_3 : List (MethodName × Nat) := [(⟨"StoneApologiesModel", "isBlock", "(I)Z"⟩, 30), (⟨"StoneApologiesModel", "isWord", "(I)Z"⟩, 30), (⟨"StoneApologiesModel", "isSpeaker", "(I)Z"⟩, 30), (⟨"StoneApologiesModel", "worthOf", "(IIII)I"⟩, 30), (⟨"StoneApologiesModel", "spoken", "(III)I"⟩, 30), (⟨"StoneApologiesModel", "byKind", "(II)I"⟩, 30), (⟨"StoneApologiesModel", "heardOf", "(III)I"⟩, 30), (⟨"StoneApologiesModel", "canSay", "(III)Z"⟩, 30), (⟨"StoneApologiesModel", "inBed", "(II)Z"⟩, 30), (⟨"StoneApologiesModel", "minds", "()V"⟩, 30), (⟨"StoneApologiesModel", "copy", "(II)V"⟩, 30), (⟨"StoneApologiesModel", "says", "(IIII)V"⟩, 30), (⟨"StoneApologiesModel", "hears", "(III)Z"⟩, 30), (⟨"StoneApologiesModel", "comes", "(II)V"⟩, 30), (⟨"StoneApologiesModel", "takesFor", "(III)V"⟩, 30), (⟨"StoneApologiesModel", "isElse", "(III)Z"⟩, 30)]
theorem lw_r3 : ∀ q ∈ lw_privs_3, lw_okq q := List.forall_mem_cons.mpr ⟨lw_p32, List.forall_mem_cons.mpr ⟨lw_p33, List.forall_mem_cons.mpr ⟨lw_p34, List.forall_mem_cons.mpr ⟨lw_p35, List.forall_mem_cons.mpr ⟨lw_p36, List.forall_mem_cons.mpr ⟨lw_p37, List.forall_mem_cons.mpr ⟨lw_p38, List.forall_mem_cons.mpr ⟨lw_p39, List.forall_mem_cons.mpr ⟨lw_p40, List.forall_mem_cons.mpr ⟨lw_p41, List.forall_mem_cons.mpr ⟨lw_p42, List.forall_mem_cons.mpr ⟨lw_p43, List.forall_mem_cons.mpr ⟨lw_p44, List.forall_mem_cons.mpr ⟨lw_p45, List.forall_mem_cons.mpr ⟨lw_p46, List.forall_mem_cons.mpr ⟨lw_p47, fun _ h => absurd h List.not_mem_nil⟩⟩⟩⟩⟩⟩⟩⟩⟩⟩⟩⟩⟩⟩⟩⟩
theorem lw_p48 : lw_okq (⟨"StoneApologiesModel", "passes", "(I)V"⟩, 30) := ⟨⟨by decide +kernel, by decide +kernel⟩, List.mem_of_getElem? (i := 724) (by decide +kernel), List.mem_of_getElem? (i := 1009) (by decide +kernel), List.mem_of_getElem? (i := 1010) (by decide +kernel)⟩
theorem lw_p49 : lw_okq (⟨"StoneApologiesModel", "bringsOut", "(II)Z"⟩, 30) := ⟨⟨by decide +kernel, by decide +kernel⟩, List.mem_of_getElem? (i := 724) (by decide +kernel), List.mem_of_getElem? (i := 1021) (by decide +kernel), List.mem_of_getElem? (i := 1022) (by decide +kernel)⟩
theorem lw_p50 : lw_okq (⟨"StoneApologiesModel", "bestOf", "(II)I"⟩, 30) := ⟨⟨by decide +kernel, by decide +kernel⟩, List.mem_of_getElem? (i := 724) (by decide +kernel), List.mem_of_getElem? (i := 1029) (by decide +kernel), List.mem_of_getElem? (i := 1030) (by decide +kernel)⟩
theorem lw_p51 : lw_okq (⟨"StoneApologiesModel", "bestOrder", "()I"⟩, 30) := ⟨⟨by decide +kernel, by decide +kernel⟩, List.mem_of_getElem? (i := 724) (by decide +kernel), List.mem_of_getElem? (i := 1037) (by decide +kernel), List.mem_of_getElem? (i := 1038) (by decide +kernel)⟩
theorem lw_p52 : lw_okq (⟨"StoneApologiesModel", "bedOf", "()I"⟩, 30) := ⟨⟨by decide +kernel, by decide +kernel⟩, List.mem_of_getElem? (i := 724) (by decide +kernel), List.mem_of_getElem? (i := 1041) (by decide +kernel), List.mem_of_getElem? (i := 1042) (by decide +kernel)⟩
theorem lw_p53 : lw_okq (⟨"StoneApologiesModel", "asks", "(II)V"⟩, 30) := ⟨⟨by decide +kernel, by decide +kernel⟩, List.mem_of_getElem? (i := 724) (by decide +kernel), List.mem_of_getElem? (i := 1051) (by decide +kernel), List.mem_of_getElem? (i := 1052) (by decide +kernel)⟩
theorem lw_p54 : lw_okq (⟨"StoneApologiesModel", "tries", "()V"⟩, 30) := ⟨⟨by decide +kernel, by decide +kernel⟩, List.mem_of_getElem? (i := 724) (by decide +kernel), List.mem_of_getElem? (i := 1059) (by decide +kernel), List.mem_of_getElem? (i := 1060) (by decide +kernel)⟩
theorem lw_p55 : lw_okq (⟨"StoneApologiesModel", "bestWord", "(II)I"⟩, 30) := ⟨⟨by decide +kernel, by decide +kernel⟩, List.mem_of_getElem? (i := 724) (by decide +kernel), List.mem_of_getElem? (i := 1063) (by decide +kernel), List.mem_of_getElem? (i := 1064) (by decide +kernel)⟩
theorem lw_p56 : lw_okq (⟨"StoneApologiesModel", "harmOf", "(II)I"⟩, 30) := ⟨⟨by decide +kernel, by decide +kernel⟩, List.mem_of_getElem? (i := 724) (by decide +kernel), List.mem_of_getElem? (i := 1080) (by decide +kernel), List.mem_of_getElem? (i := 1081) (by decide +kernel)⟩
theorem lw_p57 : lw_okq (⟨"StoneApologiesModel", "lies", "(II)Z"⟩, 30) := ⟨⟨by decide +kernel, by decide +kernel⟩, List.mem_of_getElem? (i := 724) (by decide +kernel), List.mem_of_getElem? (i := 1088) (by decide +kernel), List.mem_of_getElem? (i := 1089) (by decide +kernel)⟩
theorem lw_p58 : lw_okq (⟨"StoneApologiesModel", "doesBy", "(I)V"⟩, 30) := ⟨⟨by decide +kernel, by decide +kernel⟩, List.mem_of_getElem? (i := 724) (by decide +kernel), List.mem_of_getElem? (i := 1112) (by decide +kernel), List.mem_of_getElem? (i := 1113) (by decide +kernel)⟩
theorem lw_p59 : lw_okq (⟨"StoneApologiesModel", "manyHow", "(II)I"⟩, 30) := ⟨⟨by decide +kernel, by decide +kernel⟩, List.mem_of_getElem? (i := 724) (by decide +kernel), List.mem_of_getElem? (i := 1116) (by decide +kernel), List.mem_of_getElem? (i := 1117) (by decide +kernel)⟩
def lw_privs_4 : List (MethodName × Nat) := [(⟨"StoneApologiesModel", "passes", "(I)V"⟩, 30), (⟨"StoneApologiesModel", "bringsOut", "(II)Z"⟩, 30), (⟨"StoneApologiesModel", "bestOf", "(II)I"⟩, 30), (⟨"StoneApologiesModel", "bestOrder", "()I"⟩, 30), (⟨"StoneApologiesModel", "bedOf", "()I"⟩, 30), (⟨"StoneApologiesModel", "asks", "(II)V"⟩, 30), (⟨"StoneApologiesModel", "tries", "()V"⟩, 30), (⟨"StoneApologiesModel", "bestWord", "(II)I"⟩, 30), (⟨"StoneApologiesModel", "harmOf", "(II)I"⟩, 30), (⟨"StoneApologiesModel", "lies", "(II)Z"⟩, 30), (⟨"StoneApologiesModel", "doesBy", "(I)V"⟩, 30), (⟨"StoneApologiesModel", "manyHow", "(II)I"⟩, 30)]
theorem lw_r4 : ∀ q ∈ lw_privs_4, lw_okq q := List.forall_mem_cons.mpr ⟨lw_p48, List.forall_mem_cons.mpr ⟨lw_p49, List.forall_mem_cons.mpr ⟨lw_p50, List.forall_mem_cons.mpr ⟨lw_p51, List.forall_mem_cons.mpr ⟨lw_p52, List.forall_mem_cons.mpr ⟨lw_p53, List.forall_mem_cons.mpr ⟨lw_p54, List.forall_mem_cons.mpr ⟨lw_p55, List.forall_mem_cons.mpr ⟨lw_p56, List.forall_mem_cons.mpr ⟨lw_p57, List.forall_mem_cons.mpr ⟨lw_p58, List.forall_mem_cons.mpr ⟨lw_p59, fun _ h => absurd h List.not_mem_nil⟩⟩⟩⟩⟩⟩⟩⟩⟩⟩⟩⟩
def lw_privs : List (MethodName × Nat) := lw_privs_1 ++ (lw_privs_2 ++ (lw_privs_3 ++ (lw_privs_4)))
def lw_tbl : List Cond := k2_sels lw_privs ++ tables_1
theorem lw_privs_ok : ∀ q ∈ lw_privs, lw_okq q := by
  show ∀ q ∈ lw_privs_1 ++ (lw_privs_2 ++ (lw_privs_3 ++ (lw_privs_4))), lw_okq q
  exact List.forall_mem_append.mpr ⟨lw_r1, List.forall_mem_append.mpr ⟨lw_r2, List.forall_mem_append.mpr ⟨lw_r3, lw_r4⟩⟩⟩
end
section
/-! ===== BEGIN words of one list among another's, by their places ===== -/
theorem goodIn_r {big : List Cond} (ws : List Cond) (ps : List Nat) (hp : ws = ps.filterMap (fun i => big[i]?)) (h : ws.all goodWord = true) : GoodIn big ws := by
  intro w hw
  have h1 := List.all_eq_true.mp h w hw
  rw [hp] at hw
  obtain ⟨i, -, hi⟩ := List.mem_filterMap.mp hw
  have hm : w ∈ big := by first | exact List.mem_of_getElem? hi | exact List.getElem?_mem hi
  exact ⟨hm, good_of_word h1⟩
theorem goodIn_app {big a b : List Cond} (ha : GoodIn big a) (hb : GoodIn big b) : GoodIn big (a ++ b) := fun w h => (List.mem_append.mp h).elim (ha w) (hb w)
theorem goodIn_ca {big a b : List Cond} {c : Cond} (ha : GoodIn big (c :: a)) (hb : GoodIn big b) : GoodIn big (c :: (a ++ b)) := fun w h => (List.mem_cons.mp h).elim (fun e => ha w (List.mem_cons.mpr (Or.inl e))) (fun h => (List.mem_append.mp h).elim (fun h => ha w (List.mem_cons.mpr (Or.inr h))) (hb w))
theorem goodIn_sub {big ws : List Cond} (hm : ∀ w ∈ ws, w ∈ big) (h : ws.all goodWord = true) : GoodIn big ws := fun w hw => ⟨hm w hw, good_of_word (List.all_eq_true.mp h w hw)⟩
/-! ===== END ===== -/

/-! ===== BEGIN printed: names, fields, word lists, decode rows ===== -/
def RX0 : String := "StoneApologies$Bed"
def TX0 : u_T := fun k => match k with
  | 0 => ("StoneApologies$Bed", "blocks", "I", false)
  | 1 => ("StoneApologies$Bed", "words", "I", false)
  | 2 => ("StoneApologies$Bed", "speakers", "I", false)
  | 3 => ("StoneApologies$Bed", "chill", "I", false)
  | 4 => ("StoneApologies$Bed", "blockKinds", "[I", true)
  | 5 => ("StoneApologies$Bed", "needs", "[I", true)
  | 6 => ("StoneApologies$Bed", "wordWorths", "[I", true)
  | 7 => ("StoneApologies$Bed", "speakerKinds", "[I", true)
  | 8 => ("StoneApologies$Bed", "dayHours", "[I", true)
  | 9 => ("StoneApologies$Bed", "firstVows", "[I", true)
  | 10 => ("StoneApologies$Bed", "plainWorths", "[I", true)
  | _ => ("StoneApologies$Bed", "freshWorths", "[I", true)
def tyX0 : Nat → FieldType := fun k => match k with
  | 0 => .int
  | 1 => .int
  | 2 => .int
  | 3 => .int
  | 4 => .array .int
  | 5 => .array .int
  | 6 => .array .int
  | 7 => .array .int
  | 8 => .array .int
  | 9 => .array .int
  | 10 => .array .int
  | _ => .array .int
abbrev wsX00 : List Cond := u_ws RX0 TX0 12
theorem nmX0 : ∀ a, a < 12 → ∀ b, b < 12 → a ≠ b → (TX0 a).2.1 ≠ (TX0 b).2.1 := by decide +kernel
theorem tyX0_ok : ∀ k, k < 12 → parseFieldDescriptor (TX0 k).2.2.1 = some (tyX0 k) := by decide +kernel
abbrev cX0_init : ByteArray := prog_2_method_1_code
def yX0_init : MethodName := ⟨RX0, "<init>", "()V"⟩
abbrev cX0_clear : ByteArray := prog_2_method_2_code
def yX0_clear : MethodName := ⟨RX0, "clear", "()V"⟩
abbrev cX0_isWhole : ByteArray := prog_2_method_3_code
def yX0_isWhole : MethodName := ⟨RX0, "isWhole", "()Z"⟩
abbrev cX0_addBlock : ByteArray := prog_2_method_4_code
def yX0_addBlock : MethodName := ⟨RX0, "addBlock", "(II)Z"⟩
abbrev cX0_addWord : ByteArray := prog_2_method_5_code
def yX0_addWord : MethodName := ⟨RX0, "addWord", "(I)Z"⟩
abbrev cX0_addSpeaker : ByteArray := prog_2_method_6_code
def yX0_addSpeaker : MethodName := ⟨RX0, "addSpeaker", "(II)Z"⟩
abbrev cX0_setFrost : ByteArray := prog_2_method_7_code
def yX0_setFrost : MethodName := ⟨RX0, "setFrost", "(I)Z"⟩
abbrev cX0_addVow : ByteArray := prog_2_method_8_code
def yX0_addVow : MethodName := ⟨RX0, "addVow", "(III)Z"⟩
abbrev cX0_reckon : ByteArray := prog_2_method_9_code
def yX0_reckon : MethodName := ⟨RX0, "reckon", "()V"⟩
abbrev cX0_plainWorth : ByteArray := prog_2_method_10_code
def yX0_plainWorth : MethodName := ⟨RX0, "plainWorth", "(II)I"⟩
abbrev cX0_spokenWorth : ByteArray := prog_2_method_11_code
def yX0_spokenWorth : MethodName := ⟨RX0, "spokenWorth", "(IIII)I"⟩
abbrev cX0_coldFor : ByteArray := prog_2_method_12_code
def yX0_coldFor : MethodName := ⟨RX0, "coldFor", "(I)I"⟩
abbrev cX0_vowPlace : ByteArray := prog_2_method_13_code
def yX0_vowPlace : MethodName := ⟨RX0, "vowPlace", "(II)I"⟩
abbrev cX0_wordPlace : ByteArray := prog_2_method_14_code
def yX0_wordPlace : MethodName := ⟨RX0, "wordPlace", "(II)I"⟩
abbrev cX0_sayingPlace : ByteArray := prog_2_method_15_code
def yX0_sayingPlace : MethodName := ⟨RX0, "sayingPlace", "(III)I"⟩
def RX1 : String := "StoneApologies$Orders"
def TX1 : u_T := fun k => match k with
  | 0 => ("StoneApologies$Orders", "steps", "[LStoneApologies$Quarry;", true)
  | 1 => ("StoneApologies$Orders", "row", "[I", true)
  | 2 => ("StoneApologies$Orders", "found", "[I", true)
  | 3 => ("StoneApologies$Orders", "asked", "I", false)
  | _ => ("StoneApologies$Orders", "most", "I", false)
def tyX1 : Nat → FieldType := fun k => match k with
  | 0 => .array (.object "StoneApologies$Quarry")
  | 1 => .array .int
  | 2 => .array .int
  | 3 => .int
  | _ => .int
abbrev wsX10 : List Cond := u_ws RX1 TX1 5
theorem nmX1 : ∀ a, a < 5 → ∀ b, b < 5 → a ≠ b → (TX1 a).2.1 ≠ (TX1 b).2.1 := by decide +kernel
theorem tyX1_ok : ∀ k, k < 5 → parseFieldDescriptor (TX1 k).2.2.1 = some (tyX1 k) := by decide +kernel
abbrev cX1_init : ByteArray := prog_3_method_1_code
def yX1_init : MethodName := ⟨RX1, "<init>", "(LStoneApologies$Bed;)V"⟩
abbrev cX1_seek : ByteArray := prog_3_method_2_code
def yX1_seek : MethodName := ⟨RX1, "seek", "(LStoneApologies$Quarry;)V"⟩
abbrev cX1_extend : ByteArray := prog_3_method_3_code
def yX1_extend : MethodName := ⟨RX1, "extend", "(LStoneApologies$Orders;III)V"⟩
def RX2 : String := "StoneApologies$Pile"
def TX2 : u_T := fun k => match k with
  | 0 => ("StoneApologies$Pile", "slots", "[LStoneApologies$Quarry;", true)
  | 1 => ("StoneApologies$Pile", "next", "I", false)
  | _ => ("StoneApologies$Pile", "size", "I", false)
def tyX2 : Nat → FieldType := fun k => match k with
  | 0 => .array (.object "StoneApologies$Quarry")
  | 1 => .int
  | _ => .int
abbrev wsX20 : List Cond := u_ws RX2 TX2 3
theorem nmX2 : ∀ a, a < 3 → ∀ b, b < 3 → a ≠ b → (TX2 a).2.1 ≠ (TX2 b).2.1 := by decide +kernel
theorem tyX2_ok : ∀ k, k < 3 → parseFieldDescriptor (TX2 k).2.2.1 = some (tyX2 k) := by decide +kernel
abbrev cX2_init : ByteArray := prog_4_method_1_code
def yX2_init : MethodName := ⟨RX2, "<init>", "(ILStoneApologies$Bed;)V"⟩
abbrev cX2_clear : ByteArray := prog_4_method_2_code
def yX2_clear : MethodName := ⟨RX2, "clear", "()V"⟩
abbrev cX2_push : ByteArray := prog_4_method_3_code
def yX2_push : MethodName := ⟨RX2, "push", "(LStoneApologies$Quarry;)V"⟩
abbrev cX2_pop : ByteArray := prog_4_method_4_code
def yX2_pop : MethodName := ⟨RX2, "pop", "(LStoneApologies$Quarry;)Z"⟩
def RX3 : String := "StoneApologies$Quarry"
def TX3 : u_T := fun k => match k with
  | 0 => ("StoneApologies$Quarry", "bed", "LStoneApologies$Bed;", true)
  | 1 => ("StoneApologies$Quarry", "day", "I", false)
  | 2 => ("StoneApologies$Quarry", "softness", "[I", true)
  | 3 => ("StoneApologies$Quarry", "places", "[I", true)
  | 4 => ("StoneApologies$Quarry", "takenFor", "[I", true)
  | 5 => ("StoneApologies$Quarry", "hours", "[I", true)
  | 6 => ("StoneApologies$Quarry", "hearings", "[I", true)
  | _ => ("StoneApologies$Quarry", "vows", "[I", true)
def tyX3 : Nat → FieldType := fun k => match k with
  | 0 => .object "StoneApologies$Bed"
  | 1 => .int
  | 2 => .array .int
  | 3 => .array .int
  | 4 => .array .int
  | 5 => .array .int
  | 6 => .array .int
  | _ => .array .int
abbrev wsX30 : List Cond := u_ws RX3 TX3 8
theorem nmX3 : ∀ a, a < 8 → ∀ b, b < 8 → a ≠ b → (TX3 a).2.1 ≠ (TX3 b).2.1 := by decide +kernel
theorem tyX3_ok : ∀ k, k < 8 → parseFieldDescriptor (TX3 k).2.2.1 = some (tyX3 k) := by decide +kernel
abbrev cX3_init : ByteArray := prog_5_method_1_code
def yX3_init : MethodName := ⟨RX3, "<init>", "(LStoneApologies$Bed;)V"⟩
abbrev cX3_begin : ByteArray := prog_5_method_2_code
def yX3_begin : MethodName := ⟨RX3, "begin", "()V"⟩
abbrev cX3_copyFrom : ByteArray := prog_5_method_3_code
def yX3_copyFrom : MethodName := ⟨RX3, "copyFrom", "(LStoneApologies$Quarry;)V"⟩
abbrev cX3_isIn : ByteArray := prog_5_method_4_code
def yX3_isIn : MethodName := ⟨RX3, "isIn", "(II)Z"⟩
abbrev cX3_tally : ByteArray := prog_5_method_5_code
def yX3_tally : MethodName := ⟨RX3, "tally", "(I)I"⟩
abbrev cX3_hoursLeft : ByteArray := prog_5_method_6_code
def yX3_hoursLeft : MethodName := ⟨RX3, "hoursLeft", "()I"⟩
abbrev cX3_lackOf : ByteArray := prog_5_method_7_code
def yX3_lackOf : MethodName := ⟨RX3, "lackOf", "(I)I"⟩
abbrev cX3_timesHeard : ByteArray := prog_5_method_8_code
def yX3_timesHeard : MethodName := ⟨RX3, "timesHeard", "(II)I"⟩
abbrev cX3_worthOf : ByteArray := prog_5_method_9_code
def yX3_worthOf : MethodName := ⟨RX3, "worthOf", "(III)I"⟩
abbrev cX3_vowOf : ByteArray := prog_5_method_10_code
def yX3_vowOf : MethodName := ⟨RX3, "vowOf", "(II)I"⟩
abbrev cX3_canSay : ByteArray := prog_5_method_11_code
def yX3_canSay : MethodName := ⟨RX3, "canSay", "(II)Z"⟩
abbrev cX3_speak : ByteArray := prog_5_method_12_code
def yX3_speak : MethodName := ⟨RX3, "speak", "(III)V"⟩
abbrev cX3_hear : ByteArray := prog_5_method_13_code
def yX3_hear : MethodName := ⟨RX3, "hear", "(III)V"⟩
abbrev cX3_hearsThrough : ByteArray := prog_5_method_14_code
def yX3_hearsThrough : MethodName := ⟨RX3, "hearsThrough", "(II)Z"⟩
abbrev cX3_soften : ByteArray := prog_5_method_15_code
def yX3_soften : MethodName := ⟨RX3, "soften", "(II)V"⟩
abbrev cX3_vow : ByteArray := prog_5_method_16_code
def yX3_vow : MethodName := ⟨RX3, "vow", "(III)V"⟩
abbrev cX3_carryOff : ByteArray := prog_5_method_17_code
def yX3_carryOff : MethodName := ⟨RX3, "carryOff", "(II)V"⟩
abbrev cX3_wouldCrack : ByteArray := prog_5_method_18_code
def yX3_wouldCrack : MethodName := ⟨RX3, "wouldCrack", "(II)Z"⟩
abbrev cX3_belies : ByteArray := prog_5_method_19_code
def yX3_belies : MethodName := ⟨RX3, "belies", "(III)Z"⟩
abbrev cX3_night : ByteArray := prog_5_method_20_code
def yX3_night : MethodName := ⟨RX3, "night", "()V"⟩
abbrev cX3_dearest : ByteArray := prog_5_method_21_code
def yX3_dearest : MethodName := ⟨RX3, "dearest", "(I)I"⟩
abbrev cX3_askAll : ByteArray := prog_5_method_22_code
def yX3_askAll : MethodName := ⟨RX3, "askAll", "(I)V"⟩
abbrev cX3_askOne : ByteArray := prog_5_method_23_code
def yX3_askOne : MethodName := ⟨RX3, "askOne", "(II)V"⟩
abbrev cX3_dearestWord : ByteArray := prog_5_method_24_code
def yX3_dearestWord : MethodName := ⟨RX3, "dearestWord", "(II)I"⟩
abbrev cX3_mildest : ByteArray := prog_5_method_25_code
def yX3_mildest : MethodName := ⟨RX3, "mildest", "(I)I"⟩
abbrev cX3_harmOf : ByteArray := prog_5_method_26_code
def yX3_harmOf : MethodName := ⟨RX3, "harmOf", "(II)I"⟩
abbrev cX3_explains : ByteArray := prog_5_method_27_code
def yX3_explains : MethodName := ⟨RX3, "explains", "(I)Z"⟩
abbrev cX3_explainsOne : ByteArray := prog_5_method_28_code
def yX3_explainsOne : MethodName := ⟨RX3, "explainsOne", "(II)Z"⟩
abbrev cX3_softerBy : ByteArray := prog_5_method_29_code
def yX3_softerBy : MethodName := ⟨RX3, "softerBy", "(IIII)I"⟩
def RX4 : String := "StoneApologies$Rows"
def TX4 : u_T := fun k => match k with
  | 0 => ("StoneApologies$Rows", "trial", "LStoneApologies$Quarry;", true)
  | _ => ("StoneApologies$Rows", "row", "[I", true)
def tyX4 : Nat → FieldType := fun k => match k with
  | 0 => .object "StoneApologies$Quarry"
  | _ => .array .int
abbrev wsX40 : List Cond := u_ws RX4 TX4 2
theorem nmX4 : ∀ a, a < 2 → ∀ b, b < 2 → a ≠ b → (TX4 a).2.1 ≠ (TX4 b).2.1 := by decide +kernel
theorem tyX4_ok : ∀ k, k < 2 → parseFieldDescriptor (TX4 k).2.2.1 = some (tyX4 k) := by decide +kernel
abbrev cX4_init : ByteArray := prog_6_method_1_code
def yX4_init : MethodName := ⟨RX4, "<init>", "(LStoneApologies$Quarry;)V"⟩
abbrev cX4_shortest : ByteArray := prog_6_method_2_code
def yX4_shortest : MethodName := ⟨RX4, "shortest", "(I)I"⟩
abbrev cX4_extend : ByteArray := prog_6_method_3_code
def yX4_extend : MethodName := ⟨RX4, "extend", "(LStoneApologies$Rows;III)Z"⟩
abbrev cX4_shift : ByteArray := prog_6_method_4_code
def yX4_shift : MethodName := ⟨RX4, "shift", "(IIIII)V"⟩
def RX5 : String := "StoneApologies$Text"
def TX5 : u_T := fun k => match k with
  | 0 => ("StoneApologies$Text", "letters", "[I", true)
  | 1 => ("StoneApologies$Text", "numbers", "[I", true)
  | 2 => ("StoneApologies$Text", "length", "I", false)
  | _ => ("StoneApologies$Text", "place", "I", false)
def tyX5 : Nat → FieldType := fun k => match k with
  | 0 => .array .int
  | 1 => .array .int
  | 2 => .int
  | _ => .int
abbrev wsX50 : List Cond := u_ws RX5 TX5 4
theorem nmX5 : ∀ a, a < 4 → ∀ b, b < 4 → a ≠ b → (TX5 a).2.1 ≠ (TX5 b).2.1 := by decide +kernel
theorem tyX5_ok : ∀ k, k < 4 → parseFieldDescriptor (TX5 k).2.2.1 = some (tyX5 k) := by decide +kernel
abbrev cX5_init : ByteArray := prog_7_method_1_code
def yX5_init : MethodName := ⟨RX5, "<init>", "()V"⟩
abbrev cX5_append : ByteArray := prog_7_method_2_code
def yX5_append : MethodName := ⟨RX5, "append", "(I)V"⟩
abbrev cX5_readInto : ByteArray := prog_7_method_3_code
def yX5_readInto : MethodName := ⟨RX5, "readInto", "(LStoneApologies$Bed;)I"⟩
abbrev cX5_readItem : ByteArray := prog_7_method_4_code
def yX5_readItem : MethodName := ⟨RX5, "readItem", "(LStoneApologies$Bed;)Z"⟩
abbrev cX5_readNumbers : ByteArray := prog_7_method_5_code
def yX5_readNumbers : MethodName := ⟨RX5, "readNumbers", "()I"⟩
abbrev cX5_readNumber : ByteArray := prog_7_method_6_code
def yX5_readNumber : MethodName := ⟨RX5, "readNumber", "()I"⟩
abbrev cX5_letterAt : ByteArray := prog_7_method_7_code
def yX5_letterAt : MethodName := ⟨RX5, "letterAt", "(I)I"⟩
def RX6 : String := "StoneApologies"
def TX6 : u_T := fun k => match k with
  | 0 => ("StoneApologies", "text", "LStoneApologies$Text;", true)
  | 1 => ("StoneApologies", "bed", "LStoneApologies$Bed;", true)
  | 2 => ("StoneApologies", "draft", "LStoneApologies$Bed;", true)
  | 3 => ("StoneApologies", "now", "LStoneApologies$Quarry;", true)
  | 4 => ("StoneApologies", "trial", "LStoneApologies$Quarry;", true)
  | 5 => ("StoneApologies", "past", "LStoneApologies$Pile;", true)
  | 6 => ("StoneApologies", "kept", "LStoneApologies$Pile;", true)
  | 7 => ("StoneApologies", "rows", "LStoneApologies$Rows;", true)
  | _ => ("StoneApologies", "orders", "LStoneApologies$Orders;", true)
def tyX6 : Nat → FieldType := fun k => match k with
  | 0 => .object "StoneApologies$Text"
  | 1 => .object "StoneApologies$Bed"
  | 2 => .object "StoneApologies$Bed"
  | 3 => .object "StoneApologies$Quarry"
  | 4 => .object "StoneApologies$Quarry"
  | 5 => .object "StoneApologies$Pile"
  | 6 => .object "StoneApologies$Pile"
  | 7 => .object "StoneApologies$Rows"
  | _ => .object "StoneApologies$Orders"
abbrev wsX60 : List Cond := u_ws RX6 TX6 9
theorem nmX6 : ∀ a, a < 9 → ∀ b, b < 9 → a ≠ b → (TX6 a).2.1 ≠ (TX6 b).2.1 := by decide +kernel
theorem tyX6_ok : ∀ k, k < 9 → parseFieldDescriptor (TX6 k).2.2.1 = some (tyX6 k) := by decide +kernel
abbrev cX6_init : ByteArray := prog_1_method_1_code
def yX6_init : MethodName := ⟨RX6, "<init>", "()V"⟩
abbrev cX6_write : ByteArray := prog_1_method_2_code
def yX6_write : MethodName := ⟨RX6, "write", "(I)I"⟩
abbrev cX6_wipe : ByteArray := prog_1_method_3_code
def yX6_wipe : MethodName := ⟨RX6, "wipe", "()I"⟩
abbrev cX6_fault : ByteArray := prog_1_method_4_code
def yX6_fault : MethodName := ⟨RX6, "fault", "()I"⟩
abbrev cX6_lay : ByteArray := prog_1_method_5_code
def yX6_lay : MethodName := ⟨RX6, "lay", "()I"⟩
abbrev cX6_block : ByteArray := prog_1_method_6_code
def yX6_block : MethodName := ⟨RX6, "block", "(II)I"⟩
abbrev cX6_word : ByteArray := prog_1_method_7_code
def yX6_word : MethodName := ⟨RX6, "word", "(I)I"⟩
abbrev cX6_speaker : ByteArray := prog_1_method_8_code
def yX6_speaker : MethodName := ⟨RX6, "speaker", "(II)I"⟩
abbrev cX6_heard : ByteArray := prog_1_method_9_code
def yX6_heard : MethodName := ⟨RX6, "heard", "(II)I"⟩
abbrev cX6_promised : ByteArray := prog_1_method_10_code
def yX6_promised : MethodName := ⟨RX6, "promised", "(II)I"⟩
abbrev cX6_worth : ByteArray := prog_1_method_11_code
def yX6_worth : MethodName := ⟨RX6, "worth", "(III)I"⟩
abbrev cX6_say : ByteArray := prog_1_method_12_code
def yX6_say : MethodName := ⟨RX6, "say", "(III)I"⟩
abbrev cX6_promise : ByteArray := prog_1_method_13_code
def yX6_promise : MethodName := ⟨RX6, "promise", "(III)I"⟩
abbrev cX6_take : ByteArray := prog_1_method_14_code
def yX6_take : MethodName := ⟨RX6, "take", "(II)I"⟩
abbrev cX6_pass : ByteArray := prog_1_method_15_code
def yX6_pass : MethodName := ⟨RX6, "pass", "(I)I"⟩
abbrev cX6_undo : ByteArray := prog_1_method_16_code
def yX6_undo : MethodName := ⟨RX6, "undo", "()I"⟩
abbrev cX6_least : ByteArray := prog_1_method_17_code
def yX6_least : MethodName := ⟨RX6, "least", "(II)I"⟩
abbrev cX6_best : ByteArray := prog_1_method_18_code
def yX6_best : MethodName := ⟨RX6, "best", "(I)I"⟩
abbrev cX6_order : ByteArray := prog_1_method_19_code
def yX6_order : MethodName := ⟨RX6, "order", "(I)I"⟩
abbrev cX6_days : ByteArray := prog_1_method_20_code
def yX6_days : MethodName := ⟨RX6, "days", "(II)I"⟩
abbrev cX6_frost : ByteArray := prog_1_method_21_code
def yX6_frost : MethodName := ⟨RX6, "frost", "(I)I"⟩
abbrev cX6_uses : ByteArray := prog_1_method_22_code
def yX6_uses : MethodName := ⟨RX6, "uses", "(I)I"⟩
abbrev cX6_harm : ByteArray := prog_1_method_23_code
def yX6_harm : MethodName := ⟨RX6, "harm", "(I)I"⟩
abbrev cX6_liars : ByteArray := prog_1_method_24_code
def yX6_liars : MethodName := ⟨RX6, "liars", "()I"⟩
abbrev cX6_said : ByteArray := prog_1_method_25_code
def yX6_said : MethodName := ⟨RX6, "said", "(III)I"⟩
abbrev cX6_deaf : ByteArray := prog_1_method_26_code
def yX6_deaf : MethodName := ⟨RX6, "deaf", "(IIIIII)I"⟩
abbrev cX6_year : ByteArray := prog_1_method_27_code
def yX6_year : MethodName := ⟨RX6, "year", "(III)I"⟩
abbrev cX6_keep : ByteArray := prog_1_method_28_code
def yX6_keep : MethodName := ⟨RX6, "keep", "()I"⟩
abbrev cX6_back : ByteArray := prog_1_method_29_code
def yX6_back : MethodName := ⟨RX6, "back", "()I"⟩
abbrev cX6_count : ByteArray := prog_1_method_30_code
def yX6_count : MethodName := ⟨RX6, "count", "(I)I"⟩
abbrev cX6_layOut : ByteArray := prog_1_method_31_code
def yX6_layOut : MethodName := ⟨RX6, "layOut", "()V"⟩
abbrev cX6_isBlock : ByteArray := prog_1_method_32_code
def yX6_isBlock : MethodName := ⟨RX6, "isBlock", "(I)Z"⟩
abbrev cX6_isWord : ByteArray := prog_1_method_33_code
def yX6_isWord : MethodName := ⟨RX6, "isWord", "(I)Z"⟩
abbrev cX6_isSpeaker : ByteArray := prog_1_method_34_code
def yX6_isSpeaker : MethodName := ⟨RX6, "isSpeaker", "(I)Z"⟩
abbrev cX6_isSaying : ByteArray := prog_1_method_35_code
def yX6_isSaying : MethodName := ⟨RX6, "isSaying", "(III)Z"⟩
abbrev cX6_isUse : ByteArray := prog_1_method_36_code
def yX6_isUse : MethodName := ⟨RX6, "isUse", "(I)Z"⟩
abbrev cX6_isPart : ByteArray := prog_1_method_37_code
def yX6_isPart : MethodName := ⟨RX6, "isPart", "(I)Z"⟩
abbrev cX6_saying : ByteArray := prog_1_method_38_code
def yX6_saying : MethodName := ⟨RX6, "saying", "(II)I"⟩
abbrev cX6_weight : ByteArray := prog_1_method_39_code
def yX6_weight : MethodName := ⟨RX6, "weight", "(III)I"⟩
abbrev cX6_commonMeasure : ByteArray := prog_1_method_40_code
def yX6_commonMeasure : MethodName := ⟨RX6, "commonMeasure", "(II)I"⟩
abbrev cX6_drawOf : ByteArray := prog_1_method_41_code
def yX6_drawOf : MethodName := ⟨RX6, "drawOf", "(II)I"⟩
abbrev cX6_live : ByteArray := prog_1_method_42_code
def yX6_live : MethodName := ⟨RX6, "live", "(LStoneApologies$Quarry;I)V"⟩
abbrev cX6_at : ByteArray := prog_1_method_43_code
def yX6_at : MethodName := ⟨RX6, "at", "([II)I"⟩
abbrev cX6_put : ByteArray := prog_1_method_44_code
def yX6_put : MethodName := ⟨RX6, "put", "([III)V"⟩
abbrev cX6_fill : ByteArray := prog_1_method_45_code
def yX6_fill : MethodName := ⟨RX6, "fill", "([II)V"⟩
abbrev cX6_copy : ByteArray := prog_1_method_46_code
def yX6_copy : MethodName := ⟨RX6, "copy", "([I[I)V"⟩
abbrev cX6_pick : ByteArray := prog_1_method_47_code
def yX6_pick : MethodName := ⟨RX6, "pick", "([LStoneApologies$Quarry;I)LStoneApologies$Quarry;"⟩
def RX7 : String := "StoneApologiesModel"
def TX7 : u_T := fun k => match k with
  | 0 => ("StoneApologiesModel", "w", "[I", true)
  | 1 => ("StoneApologiesModel", "undoes", "I", false)
  | 2 => ("StoneApologiesModel", "kept", "I", false)
  | 3 => ("StoneApologiesModel", "blocks", "I", false)
  | 4 => ("StoneApologiesModel", "kind", "[I", true)
  | 5 => ("StoneApologiesModel", "needs", "[I", true)
  | 6 => ("StoneApologiesModel", "words", "I", false)
  | 7 => ("StoneApologiesModel", "told", "[I", true)
  | 8 => ("StoneApologiesModel", "speakers", "I", false)
  | 9 => ("StoneApologiesModel", "speaks", "[I", true)
  | 10 => ("StoneApologiesModel", "daily", "[I", true)
  | 11 => ("StoneApologiesModel", "cold", "I", false)
  | 12 => ("StoneApologiesModel", "text", "[I", true)
  | 13 => ("StoneApologiesModel", "texted", "I", false)
  | 14 => ("StoneApologiesModel", "place", "I", false)
  | 15 => ("StoneApologiesModel", "number", "I", false)
  | 16 => ("StoneApologiesModel", "readBlocks", "I", false)
  | 17 => ("StoneApologiesModel", "readBlock", "[I", true)
  | 18 => ("StoneApologiesModel", "readWords", "I", false)
  | 19 => ("StoneApologiesModel", "readWord", "[I", true)
  | 20 => ("StoneApologiesModel", "readSpeakers", "I", false)
  | 21 => ("StoneApologiesModel", "readSpeaker", "[I", true)
  | 22 => ("StoneApologiesModel", "readCold", "I", false)
  | 23 => ("StoneApologiesModel", "readPromised", "[I", true)
  | 24 => ("StoneApologiesModel", "tried", "[I", true)
  | 25 => ("StoneApologiesModel", "softBy", "[I", true)
  | 26 => ("StoneApologiesModel", "timesSaid", "[I", true)
  | 27 => ("StoneApologiesModel", "hoursSpoken", "[I", true)
  | 28 => ("StoneApologiesModel", "asked", "[I", true)
  | _ => ("StoneApologiesModel", "bestAsked", "[I", true)
def tyX7 : Nat → FieldType := fun k => match k with
  | 0 => .array .int
  | 1 => .int
  | 2 => .int
  | 3 => .int
  | 4 => .array .int
  | 5 => .array .int
  | 6 => .int
  | 7 => .array .int
  | 8 => .int
  | 9 => .array .int
  | 10 => .array .int
  | 11 => .int
  | 12 => .array .int
  | 13 => .int
  | 14 => .int
  | 15 => .int
  | 16 => .int
  | 17 => .array .int
  | 18 => .int
  | 19 => .array .int
  | 20 => .int
  | 21 => .array .int
  | 22 => .int
  | 23 => .array .int
  | 24 => .array .int
  | 25 => .array .int
  | 26 => .array .int
  | 27 => .array .int
  | 28 => .array .int
  | _ => .array .int
abbrev wsX70 : List Cond := u_ws RX7 TX7 30
theorem nmX7 : ∀ a, a < 30 → ∀ b, b < 30 → a ≠ b → (TX7 a).2.1 ≠ (TX7 b).2.1 := by decide +kernel
theorem tyX7_ok : ∀ k, k < 30 → parseFieldDescriptor (TX7 k).2.2.1 = some (tyX7 k) := by decide +kernel
abbrev cX7_init : ByteArray := prog_9_method_1_code
def yX7_init : MethodName := ⟨RX7, "<init>", "()V"⟩
abbrev cX7_in : ByteArray := prog_9_method_3_code
def yX7_in : MethodName := ⟨RX7, "in", "(JJJ)Z"⟩
abbrev cX7_has : ByteArray := prog_9_method_4_code
def yX7_has : MethodName := ⟨RX7, "has", "(II)Z"⟩
abbrev cX7_ones : ByteArray := prog_9_method_5_code
def yX7_ones : MethodName := ⟨RX7, "ones", "(I)I"⟩
abbrev cX7_copy : ByteArray := prog_9_method_6_code
def yX7_copy : MethodName := ⟨RX7, "copy", "(II)V"⟩
abbrev cX7_isBlock : ByteArray := prog_9_method_7_code
def yX7_isBlock : MethodName := ⟨RX7, "isBlock", "(I)Z"⟩
abbrev cX7_isWord : ByteArray := prog_9_method_8_code
def yX7_isWord : MethodName := ⟨RX7, "isWord", "(I)Z"⟩
abbrev cX7_isSpeaker : ByteArray := prog_9_method_9_code
def yX7_isSpeaker : MethodName := ⟨RX7, "isSpeaker", "(I)Z"⟩
abbrev cX7_starts : ByteArray := prog_9_method_10_code
def yX7_starts : MethodName := ⟨RX7, "starts", "()V"⟩
abbrev cX7_addsBlock : ByteArray := prog_9_method_11_code
def yX7_addsBlock : MethodName := ⟨RX7, "addsBlock", "(II)V"⟩
abbrev cX7_addsWord : ByteArray := prog_9_method_12_code
def yX7_addsWord : MethodName := ⟨RX7, "addsWord", "(I)V"⟩
abbrev cX7_addsSpeaker : ByteArray := prog_9_method_13_code
def yX7_addsSpeaker : MethodName := ⟨RX7, "addsSpeaker", "(II)V"⟩
abbrev cX7_begins : ByteArray := prog_9_method_14_code
def yX7_begins : MethodName := ⟨RX7, "begins", "()V"⟩
abbrev cX7_write : ByteArray := prog_9_method_15_code
def yX7_write : MethodName := ⟨RX7, "write", "(I)I"⟩
abbrev cX7_wipe : ByteArray := prog_9_method_16_code
def yX7_wipe : MethodName := ⟨RX7, "wipe", "()I"⟩
abbrev cX7_letterAt : ByteArray := prog_9_method_17_code
def yX7_letterAt : MethodName := ⟨RX7, "letterAt", "(I)I"⟩
abbrev cX7_takesNumber : ByteArray := prog_9_method_18_code
def yX7_takesNumber : MethodName := ⟨RX7, "takesNumber", "(III)Z"⟩
abbrev cX7_takesBlock : ByteArray := prog_9_method_19_code
def yX7_takesBlock : MethodName := ⟨RX7, "takesBlock", "()Z"⟩
abbrev cX7_takesWord : ByteArray := prog_9_method_20_code
def yX7_takesWord : MethodName := ⟨RX7, "takesWord", "()Z"⟩
abbrev cX7_takesSpeaker : ByteArray := prog_9_method_21_code
def yX7_takesSpeaker : MethodName := ⟨RX7, "takesSpeaker", "()Z"⟩
abbrev cX7_takesFrost : ByteArray := prog_9_method_22_code
def yX7_takesFrost : MethodName := ⟨RX7, "takesFrost", "()Z"⟩
abbrev cX7_takesPromise : ByteArray := prog_9_method_23_code
def yX7_takesPromise : MethodName := ⟨RX7, "takesPromise", "()Z"⟩
abbrev cX7_takesItem : ByteArray := prog_9_method_24_code
def yX7_takesItem : MethodName := ⟨RX7, "takesItem", "()Z"⟩
abbrev cX7_faultOf : ByteArray := prog_9_method_25_code
def yX7_faultOf : MethodName := ⟨RX7, "faultOf", "()I"⟩
abbrev cX7_fault : ByteArray := prog_9_method_26_code
def yX7_fault : MethodName := ⟨RX7, "fault", "()I"⟩
abbrev cX7_lay : ByteArray := prog_9_method_27_code
def yX7_lay : MethodName := ⟨RX7, "lay", "()I"⟩
abbrev cX7_block : ByteArray := prog_9_method_28_code
def yX7_block : MethodName := ⟨RX7, "block", "(II)I"⟩
abbrev cX7_word : ByteArray := prog_9_method_29_code
def yX7_word : MethodName := ⟨RX7, "word", "(I)I"⟩
abbrev cX7_speaker : ByteArray := prog_9_method_30_code
def yX7_speaker : MethodName := ⟨RX7, "speaker", "(II)I"⟩
abbrev cX7_heard : ByteArray := prog_9_method_31_code
def yX7_heard : MethodName := ⟨RX7, "heard", "(II)I"⟩
abbrev cX7_promised : ByteArray := prog_9_method_32_code
def yX7_promised : MethodName := ⟨RX7, "promised", "(II)I"⟩
abbrev cX7_byKind : ByteArray := prog_9_method_33_code
def yX7_byKind : MethodName := ⟨RX7, "byKind", "(II)I"⟩
abbrev cX7_less : ByteArray := prog_9_method_34_code
def yX7_less : MethodName := ⟨RX7, "less", "(II)I"⟩
abbrev cX7_heardOf : ByteArray := prog_9_method_35_code
def yX7_heardOf : MethodName := ⟨RX7, "heardOf", "(III)I"⟩
abbrev cX7_spoken : ByteArray := prog_9_method_36_code
def yX7_spoken : MethodName := ⟨RX7, "spoken", "(III)I"⟩
abbrev cX7_worthOf : ByteArray := prog_9_method_37_code
def yX7_worthOf : MethodName := ⟨RX7, "worthOf", "(IIII)I"⟩
abbrev cX7_worth : ByteArray := prog_9_method_38_code
def yX7_worth : MethodName := ⟨RX7, "worth", "(III)I"⟩
abbrev cX7_inBed : ByteArray := prog_9_method_39_code
def yX7_inBed : MethodName := ⟨RX7, "inBed", "(II)Z"⟩
abbrev cX7_hears : ByteArray := prog_9_method_40_code
def yX7_hears : MethodName := ⟨RX7, "hears", "(III)Z"⟩
abbrev cX7_comes : ByteArray := prog_9_method_41_code
def yX7_comes : MethodName := ⟨RX7, "comes", "(II)V"⟩
abbrev cX7_says : ByteArray := prog_9_method_42_code
def yX7_says : MethodName := ⟨RX7, "says", "(IIII)V"⟩
abbrev cX7_passes : ByteArray := prog_9_method_43_code
def yX7_passes : MethodName := ⟨RX7, "passes", "(I)V"⟩
abbrev cX7_canSay : ByteArray := prog_9_method_44_code
def yX7_canSay : MethodName := ⟨RX7, "canSay", "(III)Z"⟩
abbrev cX7_isElse : ByteArray := prog_9_method_45_code
def yX7_isElse : MethodName := ⟨RX7, "isElse", "(III)Z"⟩
abbrev cX7_takesFor : ByteArray := prog_9_method_46_code
def yX7_takesFor : MethodName := ⟨RX7, "takesFor", "(III)V"⟩
abbrev cX7_minds : ByteArray := prog_9_method_47_code
def yX7_minds : MethodName := ⟨RX7, "minds", "()V"⟩
abbrev cX7_say : ByteArray := prog_9_method_48_code
def yX7_say : MethodName := ⟨RX7, "say", "(III)I"⟩
abbrev cX7_promise : ByteArray := prog_9_method_49_code
def yX7_promise : MethodName := ⟨RX7, "promise", "(III)I"⟩
abbrev cX7_take : ByteArray := prog_9_method_50_code
def yX7_take : MethodName := ⟨RX7, "take", "(II)I"⟩
abbrev cX7_pass : ByteArray := prog_9_method_51_code
def yX7_pass : MethodName := ⟨RX7, "pass", "(I)I"⟩
abbrev cX7_undo : ByteArray := prog_9_method_52_code
def yX7_undo : MethodName := ⟨RX7, "undo", "()I"⟩
abbrev cX7_tries : ByteArray := prog_9_method_53_code
def yX7_tries : MethodName := ⟨RX7, "tries", "()V"⟩
abbrev cX7_bringsOut : ByteArray := prog_9_method_54_code
def yX7_bringsOut : MethodName := ⟨RX7, "bringsOut", "(II)Z"⟩
abbrev cX7_least : ByteArray := prog_9_method_55_code
def yX7_least : MethodName := ⟨RX7, "least", "(II)I"⟩
abbrev cX7_bestOf : ByteArray := prog_9_method_56_code
def yX7_bestOf : MethodName := ⟨RX7, "bestOf", "(II)I"⟩
abbrev cX7_best : ByteArray := prog_9_method_57_code
def yX7_best : MethodName := ⟨RX7, "best", "(I)I"⟩
abbrev cX7_asks : ByteArray := prog_9_method_58_code
def yX7_asks : MethodName := ⟨RX7, "asks", "(II)V"⟩
abbrev cX7_bedOf : ByteArray := prog_9_method_59_code
def yX7_bedOf : MethodName := ⟨RX7, "bedOf", "()I"⟩
abbrev cX7_bestOrder : ByteArray := prog_9_method_60_code
def yX7_bestOrder : MethodName := ⟨RX7, "bestOrder", "()I"⟩
abbrev cX7_order : ByteArray := prog_9_method_61_code
def yX7_order : MethodName := ⟨RX7, "order", "(I)I"⟩
abbrev cX7_bestWord : ByteArray := prog_9_method_62_code
def yX7_bestWord : MethodName := ⟨RX7, "bestWord", "(II)I"⟩
abbrev cX7_days : ByteArray := prog_9_method_63_code
def yX7_days : MethodName := ⟨RX7, "days", "(II)I"⟩
abbrev cX7_frost : ByteArray := prog_9_method_64_code
def yX7_frost : MethodName := ⟨RX7, "frost", "(I)I"⟩
abbrev cX7_uses : ByteArray := prog_9_method_65_code
def yX7_uses : MethodName := ⟨RX7, "uses", "(I)I"⟩
abbrev cX7_harmOf : ByteArray := prog_9_method_66_code
def yX7_harmOf : MethodName := ⟨RX7, "harmOf", "(II)I"⟩
abbrev cX7_harm : ByteArray := prog_9_method_67_code
def yX7_harm : MethodName := ⟨RX7, "harm", "(I)I"⟩
abbrev cX7_lies : ByteArray := prog_9_method_68_code
def yX7_lies : MethodName := ⟨RX7, "lies", "(II)Z"⟩
abbrev cX7_liars : ByteArray := prog_9_method_69_code
def yX7_liars : MethodName := ⟨RX7, "liars", "()I"⟩
abbrev cX7_said : ByteArray := prog_9_method_70_code
def yX7_said : MethodName := ⟨RX7, "said", "(III)I"⟩
abbrev cX7_deaf : ByteArray := prog_9_method_71_code
def yX7_deaf : MethodName := ⟨RX7, "deaf", "(IIIIII)I"⟩
abbrev cX7_manyHow : ByteArray := prog_9_method_72_code
def yX7_manyHow : MethodName := ⟨RX7, "manyHow", "(II)I"⟩
abbrev cX7_doesBy : ByteArray := prog_9_method_73_code
def yX7_doesBy : MethodName := ⟨RX7, "doesBy", "(I)V"⟩
abbrev cX7_year : ByteArray := prog_9_method_74_code
def yX7_year : MethodName := ⟨RX7, "year", "(III)I"⟩
abbrev cX7_keep : ByteArray := prog_9_method_75_code
def yX7_keep : MethodName := ⟨RX7, "keep", "()I"⟩
abbrev cX7_back : ByteArray := prog_9_method_76_code
def yX7_back : MethodName := ⟨RX7, "back", "()I"⟩
abbrev cX7_count : ByteArray := prog_9_method_77_code
def yX7_count : MethodName := ⟨RX7, "count", "(I)I"⟩
def RJ6 : String := "java/lang/Integer"
def TJ6 : u_T := fun k => match k with
  | _ => ("", "", "", false)
def tyJ6 : Nat → FieldType := fun k => match k with
  | _ => .int
abbrev wsJ60 : List Cond := u_ws RJ6 TJ6 0
theorem nmJ6 : ∀ a, a < 0 → ∀ b, b < 0 → a ≠ b → (TJ6 a).2.1 ≠ (TJ6 b).2.1 := by decide +kernel
theorem tyJ6_ok : ∀ k, k < 0 → parseFieldDescriptor (TJ6 k).2.2.1 = some (tyJ6 k) := by decide +kernel
abbrev cJ6_bitCount_0f7a4 : ByteArray := prog_10_method_49_code
def yJ6_bitCount_0f7a4 : MethodName := ⟨RJ6, "bitCount", "(I)I"⟩
def RJ9 : String := "java/lang/Math"
def TJ9 : u_T := fun k => match k with
  | _ => ("", "", "", false)
def tyJ9 : Nat → FieldType := fun k => match k with
  | _ => .int
abbrev wsJ90 : List Cond := u_ws RJ9 TJ9 0
theorem nmJ9 : ∀ a, a < 0 → ∀ b, b < 0 → a ≠ b → (TJ9 a).2.1 ≠ (TJ9 b).2.1 := by decide +kernel
theorem tyJ9_ok : ∀ k, k < 0 → parseFieldDescriptor (TJ9 k).2.2.1 = some (tyJ9 k) := by decide +kernel
abbrev cJ9_max_7cf53 : ByteArray := prog_11_method_65_code
def yJ9_max_7cf53 : MethodName := ⟨RJ9, "max", "(II)I"⟩
def RJ0 : String := "java/lang/String"
def TJ0 : u_T := fun k => match k with
  | _ => ("", "", "", false)
def tyJ0 : Nat → FieldType := fun k => match k with
  | _ => .int
abbrev wsJ00 : List Cond := u_ws RJ0 TJ0 0
theorem nmJ0 : ∀ a, a < 0 → ∀ b, b < 0 → a ≠ b → (TJ0 a).2.1 ≠ (TJ0 b).2.1 := by decide +kernel
theorem tyJ0_ok : ∀ k, k < 0 → parseFieldDescriptor (TJ0 k).2.2.1 = some (tyJ0 k) := by decide +kernel
abbrev cJ0_length_8abf5 : ByteArray := prog_12_method_54_code
def yJ0_length_8abf5 : MethodName := ⟨RJ0, "length", "()I"⟩
abbrev cJ0_charAt_5068e : ByteArray := prog_12_method_56_code
def yJ0_charAt_5068e : MethodName := ⟨RJ0, "charAt", "(I)C"⟩
abbrev cJ0_coder_7d493 : ByteArray := prog_12_method_152_code
def yJ0_coder_7d493 : MethodName := ⟨RJ0, "coder", "()B"⟩
abbrev cJ0_isLatin1_aae02 : ByteArray := prog_12_method_154_code
def yJ0_isLatin1_aae02 : MethodName := ⟨RJ0, "isLatin1", "()Z"⟩
abbrev cJ0_checkIndex_df160 : ByteArray := prog_12_method_155_code
def yJ0_checkIndex_df160 : MethodName := ⟨RJ0, "checkIndex", "(II)V"⟩
def RJ1 : String := "java/lang/StringLatin1"
def TJ1 : u_T := fun k => match k with
  | _ => ("", "", "", false)
def tyJ1 : Nat → FieldType := fun k => match k with
  | _ => .int
abbrev wsJ10 : List Cond := u_ws RJ1 TJ1 0
theorem nmJ1 : ∀ a, a < 0 → ∀ b, b < 0 → a ≠ b → (TJ1 a).2.1 ≠ (TJ1 b).2.1 := by decide +kernel
theorem tyJ1_ok : ∀ k, k < 0 → parseFieldDescriptor (TJ1 k).2.2.1 = some (tyJ1 k) := by decide +kernel
abbrev cJ1_charAt_3b067 : ByteArray := prog_13_method_2_code
def yJ1_charAt_3b067 : MethodName := ⟨RJ1, "charAt", "([BI)C"⟩
def RJ2 : String := "java/lang/StringUTF16"
def TJ2 : u_T := fun k => match k with
  | _ => ("", "", "", false)
def tyJ2 : Nat → FieldType := fun k => match k with
  | _ => .int
abbrev wsJ20 : List Cond := u_ws RJ2 TJ2 0
theorem nmJ2 : ∀ a, a < 0 → ∀ b, b < 0 → a ≠ b → (TJ2 a).2.1 ≠ (TJ2 b).2.1 := by decide +kernel
theorem tyJ2_ok : ∀ k, k < 0 → parseFieldDescriptor (TJ2 k).2.2.1 = some (tyJ2 k) := by decide +kernel
abbrev cJ2_getChar_3b067 : ByteArray := prog_14_method_5_code
def yJ2_getChar_3b067 : MethodName := ⟨RJ2, "getChar", "([BI)C"⟩
abbrev cJ2_length_9d52b : ByteArray := prog_14_method_6_code
def yJ2_length_9d52b : MethodName := ⟨RJ2, "length", "([B)I"⟩
abbrev cJ2_charAt_3b067 : ByteArray := prog_14_method_83_code
def yJ2_charAt_3b067 : MethodName := ⟨RJ2, "charAt", "([BI)C"⟩
abbrev cJ2_checkIndex_2214a : ByteArray := prog_14_method_91_code
def yJ2_checkIndex_2214a : MethodName := ⟨RJ2, "checkIndex", "(I[B)V"⟩
def RJ3 : String := "jdk/internal/util/Preconditions"
def TJ3 : u_T := fun k => match k with
  | _ => ("", "", "", false)
def tyJ3 : Nat → FieldType := fun k => match k with
  | _ => .int
abbrev wsJ30 : List Cond := u_ws RJ3 TJ3 0
theorem nmJ3 : ∀ a, a < 0 → ∀ b, b < 0 → a ≠ b → (TJ3 a).2.1 ≠ (TJ3 b).2.1 := by decide +kernel
theorem tyJ3_ok : ∀ k, k < 0 → parseFieldDescriptor (TJ3 k).2.2.1 = some (tyJ3 k) := by decide +kernel
abbrev cJ3_checkIndex_8e157 : ByteArray := prog_15_method_11_code
def yJ3_checkIndex_8e157 : MethodName := ⟨RJ3, "checkIndex", "(IILjava/util/function/BiFunction;)I"⟩
def RL : String := "StoneApologiesLaw"
abbrev cL_law : ByteArray := code
def yL_law : MethodName := ⟨RL, "law", "([I)Z"⟩
abbrev vwCl : List vw_C := [(RX0, TX0, 12), (RX1, TX1, 5), (RX2, TX2, 3), (RX3, TX3, 8), (RX4, TX4, 2), (RX5, TX5, 4), (RX6, TX6, 9), (RX7, TX7, 30)]
end
section
/-! THE LITTLE MACHINE: values are numbers or typed places (kind, place); a heap is a map place -> index -> Int32; refs in cells are fixed by the shape. A table gives each instruction as a function to one of four forms: go, branch, return, call. -/
abbrev QV : Type := Int32 ⊕ (Int64 ⊕ (Nat × Nat))
abbrev QL : Type := List (Nat × QV)
abbrev QH : Type := Nat → Nat → Int32
abbrev QS : Type := Nat × (QL × (List QV × QH))
abbrev QR : Type := Option QV × QH
abbrev QE : Type := Nat × (List QV × QH)
abbrev QC : Type := (QH → QS) ⊕ ((Int32 → QH → QS) ⊕ ((QH → QS) × (Nat → QH → QS)))
abbrev QN : Type := Option ((Bool × QS) ⊕ ((Bool × (QS × QS)) ⊕ ((Bool × QR) ⊕ (Bool × (QE × QC)))))
abbrev QO : Type := QL → List QV → QH → QN
abbrev QT : Type := Nat → Nat → Option QO
abbrev QK : Type := Nat → Nat → Option (List Nat)
def q_big : QV → Bool
  | .inr (.inl _) => true
  | _ => false
def q_la : Nat → List QV → QL
  | _, [] => []
  | i, v :: vs => (i, v) :: q_la (cond (q_big v) (i + 2) (i + 1)) vs
def q_lk : QL → Nat → Option QV
  | [], _ => none
  | (j, v) :: l, i => cond (Nat.beq j i) (some v) (q_lk l i)
def q_mem (i : Nat) : List Nat → Bool
  | [] => false
  | j :: l => cond (Nat.beq j i) true (q_mem i l)
def q_kp (ks : List Nat) : QL → QL
  | [] => []
  | (j, v) :: l => cond (q_mem j ks) ((j, v) :: q_kp ks l) (q_kp ks l)
def q_rm (i : Nat) : QL → QL
  | [] => []
  | (j, v) :: l => cond (Nat.beq j i) (q_rm i l) (cond (cond (Nat.beq (j + 1) i) (q_big v) false) (q_rm i l) ((j, v) :: q_rm i l))
def q_in (i : Nat) (v : QV) : QL → QL
  | [] => [(i, v)]
  | (j, w) :: l => cond (Nat.ble i j) ((i, v) :: (j, w) :: l) ((j, w) :: q_in i v l)
def q_st (i : Nat) (v : QV) (l : QL) : QL := q_in i v (q_rm i l)
def q_st2 (i : Nat) (v : QV) (l : QL) : QL := q_in i v (q_rm (i + 1) (q_rm i l))
def q_cV (r : Option QR) (k : QH → Option QR) : Option QR := match r with
  | some (none, H) => k H
  | _ => none
def q_cI (r : Option QR) (k : Int32 → QH → Option QR) : Option QR := match r with
  | some (some (.inl x), H) => k x H
  | _ => none
def q_cR (r : Option QR) (k0 : QH → Option QR) (k5 : Nat → QH → Option QR) : Option QR := match r with
  | some (some (.inr (.inr (0, _))), H) => k0 H
  | some (some (.inr (.inr (5, p))), H) => k5 p H
  | _ => none
def q_run (Kc : QE → Option QR) (K : QS → Option QR) : QN → Option QR
  | none => none
  | some (.inl (b, t)) => cond b (K t) none
  | some (.inr (.inl (b, (t, u)))) => cond b (K t) (K u)
  | some (.inr (.inr (.inl (b, r)))) => cond b (some r) none
  | some (.inr (.inr (.inr (b, (e, .inl f))))) => cond b (q_cV (Kc e) (fun H => K (f H))) none
  | some (.inr (.inr (.inr (b, (e, .inr (.inl f)))))) => cond b (q_cI (Kc e) (fun x H => K (f x H))) none
  | some (.inr (.inr (.inr (b, (e, .inr (.inr (f, g))))))) => cond b (q_cR (Kc e) (fun H => K (f H)) (fun p H => K (g p H))) none
theorem q_cV_some {r : Option QR} {k : QH → Option QR} {z : QR} (h : q_cV r k = some z) : ∃ H, r = some (none, H) ∧ k H = some z := by
  unfold q_cV at h
  split at h
  · exact ⟨_, rfl, h⟩
  · cases h
theorem q_cI_some {r : Option QR} {k : Int32 → QH → Option QR} {z : QR} (h : q_cI r k = some z) : ∃ x H, r = some (some (.inl x), H) ∧ k x H = some z := by
  unfold q_cI at h
  split at h
  · exact ⟨_, _, rfl, h⟩
  · cases h
theorem q_cR_some {r : Option QR} {k0 : QH → Option QR} {k5 : Nat → QH → Option QR} {z : QR} (h : q_cR r k0 k5 = some z) : (∃ y H, r = some (some (.inr (.inr (0, y))), H) ∧ k0 H = some z) ∨ (∃ p H, r = some (some (.inr (.inr (5, p))), H) ∧ k5 p H = some z) := by
  unfold q_cR at h
  split at h
  · exact Or.inl ⟨_, _, rfl, h⟩
  · exact Or.inr ⟨_, _, rfl, h⟩
  · cases h
theorem q_cond {b : Bool} {x : Option QR} {z : QR} (h : cond b x none = some z) : b = true ∧ x = some z := by
  cases b
  · cases h
  · exact ⟨rfl, h⟩
/-- what a run used is used at finitely many places: it is kept when the two maps grow -/
theorem q_run_mono {Kc Kc' : QE → Option QR} {K K' : QS → Option QR} (hc : ∀ e r, Kc e = some r → Kc' e = some r) (hk : ∀ t r, K t = some r → K' t = some r) : ∀ (N : QN) (r : QR), q_run Kc K N = some r → q_run Kc' K' N = some r
  | none, r, h => by cases h
  | some (.inl (b, t)), r, h => by
    obtain ⟨rfl, h2⟩ := q_cond h
    exact hk _ _ h2
  | some (.inr (.inl (b, (t, u)))), r, h => by
    cases b
    · exact hk u r h
    · exact hk t r h
  | some (.inr (.inr (.inl (b, z)))), r, h => h
  | some (.inr (.inr (.inr (b, (e, .inl f))))), r, h => by
    obtain ⟨rfl, h2⟩ := q_cond h
    obtain ⟨H, h3, h4⟩ := q_cV_some h2
    show q_cV (Kc' e) _ = some r
    rw [hc _ _ h3]
    exact hk _ _ h4
  | some (.inr (.inr (.inr (b, (e, .inr (.inl f)))))), r, h => by
    obtain ⟨rfl, h2⟩ := q_cond h
    obtain ⟨x, H, h3, h4⟩ := q_cI_some h2
    show q_cI (Kc' e) _ = some r
    rw [hc _ _ h3]
    exact hk _ _ h4
  | some (.inr (.inr (.inr (b, (e, .inr (.inr (f, g))))))), r, h => by
    obtain ⟨rfl, h2⟩ := q_cond h
    show q_cR (Kc' e) _ _ = some r
    rcases q_cR_some h2 with ⟨y, H, h3, h4⟩ | ⟨y, H, h3, h4⟩
    · rw [hc _ _ h3]; exact hk _ _ h4
    · rw [hc _ _ h3]; exact hk _ _ h4
theorem q_run_cont {Kc : Nat → QE → Option QR} {K : Nat → QS → Option QR} {Lc : QE → Option QR} {L : QS → Option QR} (mc : ∀ i j e r, i ≤ j → Kc i e = some r → Kc j e = some r) (mk : ∀ i j t r, i ≤ j → K i t = some r → K j t = some r) (hc : ∀ e r, Lc e = some r → ∃ n, Kc n e = some r) (hk : ∀ t r, L t = some r → ∃ n, K n t = some r) : ∀ (N : QN) (r : QR), q_run Lc L N = some r → ∃ n, q_run (Kc n) (K n) N = some r
  | none, r, h => by cases h
  | some (.inl (b, t)), r, h => by
    obtain ⟨rfl, h2⟩ := q_cond h
    exact hk _ _ h2
  | some (.inr (.inl (b, (t, u)))), r, h => by
    cases b
    · exact hk u r h
    · exact hk t r h
  | some (.inr (.inr (.inl (b, z)))), r, h => ⟨0, h⟩
  | some (.inr (.inr (.inr (b, (e, .inl f))))), r, h => by
    obtain ⟨rfl, h2⟩ := q_cond h
    obtain ⟨H, h3, h4⟩ := q_cV_some h2
    obtain ⟨n1, e1⟩ := hc _ _ h3
    obtain ⟨n2, e2⟩ := hk _ _ h4
    refine ⟨max n1 n2, ?_⟩
    show q_cV (Kc (max n1 n2) e) _ = some r
    rw [mc _ _ _ _ (Nat.le_max_left n1 n2) e1]
    exact mk _ _ _ _ (Nat.le_max_right n1 n2) e2
  | some (.inr (.inr (.inr (b, (e, .inr (.inl f)))))), r, h => by
    obtain ⟨rfl, h2⟩ := q_cond h
    obtain ⟨x, H, h3, h4⟩ := q_cI_some h2
    obtain ⟨n1, e1⟩ := hc _ _ h3
    obtain ⟨n2, e2⟩ := hk _ _ h4
    refine ⟨max n1 n2, ?_⟩
    show q_cI (Kc (max n1 n2) e) _ = some r
    rw [mc _ _ _ _ (Nat.le_max_left n1 n2) e1]
    exact mk _ _ _ _ (Nat.le_max_right n1 n2) e2
  | some (.inr (.inr (.inr (b, (e, .inr (.inr (f, g))))))), r, h => by
    obtain ⟨rfl, h2⟩ := q_cond h
    rcases q_cR_some h2 with ⟨y, H, h3, h4⟩ | ⟨y, H, h3, h4⟩
    · obtain ⟨n1, e1⟩ := hc _ _ h3
      obtain ⟨n2, e2⟩ := hk _ _ h4
      refine ⟨max n1 n2, ?_⟩
      show q_cR (Kc (max n1 n2) e) _ _ = some r
      rw [mc _ _ _ _ (Nat.le_max_left n1 n2) e1]
      exact mk _ _ _ _ (Nat.le_max_right n1 n2) e2
    · obtain ⟨n1, e1⟩ := hc _ _ h3
      obtain ⟨n2, e2⟩ := hk _ _ h4
      refine ⟨max n1 n2, ?_⟩
      show q_cR (Kc (max n1 n2) e) _ _ = some r
      rw [mc _ _ _ _ (Nat.le_max_left n1 n2) e1]
      exact mk _ _ _ _ (Nat.le_max_right n1 n2) e2
def q_cut (kp : QK) (mid : Nat) (t : QS) : QS := match kp mid t.1 with
  | some ks => (t.1, (q_kp ks t.2.1, t.2.2))
  | none => t
def q_step (tb : QT) (Kc : QE → Option QR) (K : QS → Option QR) (mid : Nat) (t : QS) : Option QR := match tb mid t.1 with
  | some o => q_run Kc K (o t.2.1 t.2.2.1 t.2.2.2)
  | none => none
def q_ev (tb : QT) (kp : QK) : Nat → Nat → Nat → QS → Option QR
  | 0, _, _, _ => none
  | _ + 1, 0, _, _ => none
  | n + 1, d + 1, mid, t => q_step tb (fun e => q_ev tb kp n d e.1 (0, (q_la 0 e.2.1, ([], e.2.2)))) (fun u => q_ev tb kp n (d + 1) mid (q_cut kp mid u)) mid t
theorem q_step_mono {tb : QT} {Kc Kc' : QE → Option QR} {K K' : QS → Option QR} {mid : Nat} {t : QS} {r : QR} (hc : ∀ e r, Kc e = some r → Kc' e = some r) (hk : ∀ t r, K t = some r → K' t = some r) (h : q_step tb Kc K mid t = some r) : q_step tb Kc' K' mid t = some r := by
  unfold q_step at h ⊢
  split at h
  · rename_i o ho
    exact q_run_mono hc hk _ _ h
  · cases h
theorem q_ev_succ (tb : QT) (kp : QK) : ∀ (n d mid : Nat) (t : QS) (r : QR), q_ev tb kp n d mid t = some r → q_ev tb kp (n + 1) d mid t = some r := by
  intro n
  induction n with
  | zero => intro d mid t r h; cases h
  | succ n ih =>
    intro d mid t r h
    cases d with
    | zero => cases h
    | succ d =>
      show q_step tb _ _ mid t = some r
      exact q_step_mono (fun e r h => ih _ _ _ _ h) (fun t r h => ih _ _ _ _ h) h
theorem q_ev_le (tb : QT) (kp : QK) {i j d mid : Nat} {t : QS} {r : QR} (hij : i ≤ j) (h : q_ev tb kp i d mid t = some r) : q_ev tb kp j d mid t = some r := by
  induction hij with
  | refl => exact h
  | step _ ih => exact q_ev_succ tb kp _ _ _ _ _ ih
noncomputable def q_EV (tb : QT) (kp : QK) (d mid : Nat) (t : QS) : Option QR := by
  classical
  exact if h : ∃ r n, q_ev tb kp n d mid t = some r then some (Classical.choose h) else none
theorem q_EV_iff (tb : QT) (kp : QK) (d mid : Nat) (t : QS) (r : QR) : q_EV tb kp d mid t = some r ↔ ∃ n, q_ev tb kp n d mid t = some r := by
  classical
  unfold q_EV
  constructor
  · intro h
    split at h
    · rename_i hx
      cases h
      exact Classical.choose_spec hx
    · cases h
  · rintro ⟨n, hn⟩
    have hx : ∃ r n, q_ev tb kp n d mid t = some r := ⟨r, n, hn⟩
    rw [dif_pos hx]
    obtain ⟨m, hm⟩ := Classical.choose_spec hx
    have h1 := q_ev_le tb kp (Nat.le_max_left n m) hn
    have h2 := q_ev_le tb kp (Nat.le_max_right n m) hm
    rw [h1] at h2
    exact h2.symm
theorem q_oext {a b : Option QR} (h : ∀ r, a = some r ↔ b = some r) : a = b := by
  cases a with
  | none =>
    cases b with
    | none => rfl
    | some y => exact absurd ((h y).mpr rfl) (by simp)
  | some x => exact ((h x).mp rfl).symm
/-- a method's run from its entry -/
noncomputable def q_CL (tb : QT) (kp : QK) (d : Nat) (e : QE) : Option QR := q_EV tb kp d e.1 (0, (q_la 0 e.2.1, ([], e.2.2)))
theorem q_EV_eq (tb : QT) (kp : QK) (d mid : Nat) (t : QS) : q_EV tb kp (d + 1) mid t = q_step tb (q_CL tb kp d) (fun u => q_EV tb kp (d + 1) mid (q_cut kp mid u)) mid t := by
  refine q_oext fun r => ⟨fun h => ?_, fun h => ?_⟩
  · obtain ⟨n, hn⟩ := (q_EV_iff tb kp _ _ _ _).mp h
    cases n with
    | zero => cases hn
    | succ n => exact q_step_mono (fun e r h => (q_EV_iff tb kp _ _ _ _).mpr ⟨n, h⟩) (fun t r h => (q_EV_iff tb kp _ _ _ _).mpr ⟨n, h⟩) hn
  · unfold q_step at h
    split at h
    · rename_i o ho
      obtain ⟨n, hn⟩ := q_run_cont (Kc := fun n e => q_ev tb kp n d e.1 (0, (q_la 0 e.2.1, ([], e.2.2)))) (K := fun n u => q_ev tb kp n (d + 1) mid (q_cut kp mid u)) (fun i j e r hij h => q_ev_le tb kp hij h) (fun i j t r hij h => q_ev_le tb kp hij h) (fun e r h => (q_EV_iff tb kp _ _ _ _).mp h) (fun t r h => (q_EV_iff tb kp _ _ _ _).mp h) _ _ h
      refine (q_EV_iff tb kp _ _ _ _).mpr ⟨n + 1, ?_⟩
      show q_step tb _ _ mid t = some r
      unfold q_step
      rw [ho]
      exact hn
    · cases h
noncomputable def q_go (tb : QT) (kp : QK) (d mid : Nat) : Nat → QS → Option QR
  | 0, t => q_EV tb kp (d + 1) mid t
  | k + 1, t => q_step tb (q_CL tb kp d) (fun u => match kp mid u.1 with
    | some ks => q_EV tb kp (d + 1) mid (u.1, (q_kp ks u.2.1, u.2.2))
    | none => q_go tb kp d mid k u) mid t
theorem q_go_eq (tb : QT) (kp : QK) (d mid : Nat) : ∀ (k : Nat) (t : QS), q_go tb kp d mid k t = q_EV tb kp (d + 1) mid t := by
  intro k
  induction k with
  | zero => intro t; rfl
  | succ k ih =>
    intro t
    rw [q_EV_eq]
    show q_step tb _ _ mid t = _
    have e : (fun u : QS => match kp mid u.1 with
      | some ks => q_EV tb kp (d + 1) mid (u.1, (q_kp ks u.2.1, u.2.2))
      | none => q_go tb kp d mid k u) = (fun u => q_EV tb kp (d + 1) mid (q_cut kp mid u)) := by
      funext u
      unfold q_cut
      split
      · rfl
      · exact ih u
    rw [e]
end
