section
-- ===== PART A: goes FIRST, ahead of the names: the tables' words, and 'selects' of the private methods out of them =====
/-- a private method of a class that the tables say can be made, by its rows of tables_1 -/
def lw_okq (q : MethodName × Nat) : Prop := (q.1.cls ≠ "java/lang/invoke/MethodHandle" ∧ q.1.cls ≠ "java/lang/invoke/VarHandle") ∧ Cond.instantiable q.1.cls q.2 ∈ tables_1 ∧ Cond.privateMethod q.1 ∈ tables_1 ∧ Cond.instanceMethod q.1 ∈ tables_1
theorem lw_p0 : lw_okq (⟨"StoneApologies", "layOut", "()V"⟩, 9) := ⟨⟨by decide +kernel, by decide +kernel⟩, List.mem_of_getElem? (i := 16) (by decide +kernel), List.mem_of_getElem? (i := 266) (by decide +kernel), List.mem_of_getElem? (i := 267) (by decide +kernel)⟩
theorem lw_p1 : lw_okq (⟨"StoneApologies$Text", "readItem", "(LStoneApologies$Bed;)Z"⟩, 4) := ⟨⟨by decide +kernel, by decide +kernel⟩, List.mem_of_getElem? (i := 24) (by decide +kernel), List.mem_of_getElem? (i := 281) (by decide +kernel), List.mem_of_getElem? (i := 282) (by decide +kernel)⟩
theorem lw_p2 : lw_okq (⟨"StoneApologies$Text", "letterAt", "(I)I"⟩, 4) := ⟨⟨by decide +kernel, by decide +kernel⟩, List.mem_of_getElem? (i := 24) (by decide +kernel), List.mem_of_getElem? (i := 285) (by decide +kernel), List.mem_of_getElem? (i := 286) (by decide +kernel)⟩
theorem lw_p3 : lw_okq (⟨"StoneApologies$Text", "readNumbers", "()I"⟩, 4) := ⟨⟨by decide +kernel, by decide +kernel⟩, List.mem_of_getElem? (i := 24) (by decide +kernel), List.mem_of_getElem? (i := 289) (by decide +kernel), List.mem_of_getElem? (i := 290) (by decide +kernel)⟩
theorem lw_p4 : lw_okq (⟨"StoneApologies$Text", "readNumber", "()I"⟩, 4) := ⟨⟨by decide +kernel, by decide +kernel⟩, List.mem_of_getElem? (i := 24) (by decide +kernel), List.mem_of_getElem? (i := 293) (by decide +kernel), List.mem_of_getElem? (i := 294) (by decide +kernel)⟩
theorem lw_p5 : lw_okq (⟨"StoneApologies$Bed", "plainWorth", "(II)I"⟩, 12) := ⟨⟨by decide +kernel, by decide +kernel⟩, List.mem_of_getElem? (i := 45) (by decide +kernel), List.mem_of_getElem? (i := 332) (by decide +kernel), List.mem_of_getElem? (i := 333) (by decide +kernel)⟩
theorem lw_p6 : lw_okq (⟨"StoneApologies$Bed", "spokenWorth", "(IIII)I"⟩, 12) := ⟨⟨by decide +kernel, by decide +kernel⟩, List.mem_of_getElem? (i := 45) (by decide +kernel), List.mem_of_getElem? (i := 342) (by decide +kernel), List.mem_of_getElem? (i := 343) (by decide +kernel)⟩
theorem lw_p7 : lw_okq (⟨"StoneApologies", "isBlock", "(I)Z"⟩, 9) := ⟨⟨by decide +kernel, by decide +kernel⟩, List.mem_of_getElem? (i := 16) (by decide +kernel), List.mem_of_getElem? (i := 411) (by decide +kernel), List.mem_of_getElem? (i := 412) (by decide +kernel)⟩
theorem lw_p8 : lw_okq (⟨"StoneApologies", "isWord", "(I)Z"⟩, 9) := ⟨⟨by decide +kernel, by decide +kernel⟩, List.mem_of_getElem? (i := 16) (by decide +kernel), List.mem_of_getElem? (i := 420) (by decide +kernel), List.mem_of_getElem? (i := 421) (by decide +kernel)⟩
theorem lw_p9 : lw_okq (⟨"StoneApologies", "isSpeaker", "(I)Z"⟩, 9) := ⟨⟨by decide +kernel, by decide +kernel⟩, List.mem_of_getElem? (i := 16) (by decide +kernel), List.mem_of_getElem? (i := 428) (by decide +kernel), List.mem_of_getElem? (i := 429) (by decide +kernel)⟩
theorem lw_p10 : lw_okq (⟨"StoneApologies", "isSaying", "(III)Z"⟩, 9) := ⟨⟨by decide +kernel, by decide +kernel⟩, List.mem_of_getElem? (i := 16) (by decide +kernel), List.mem_of_getElem? (i := 455) (by decide +kernel), List.mem_of_getElem? (i := 456) (by decide +kernel)⟩
theorem lw_p11 : lw_okq (⟨"StoneApologies$Quarry", "hearsThrough", "(II)Z"⟩, 8) := ⟨⟨by decide +kernel, by decide +kernel⟩, List.mem_of_getElem? (i := 108) (by decide +kernel), List.mem_of_getElem? (i := 492) (by decide +kernel), List.mem_of_getElem? (i := 493) (by decide +kernel)⟩
theorem lw_p12 : lw_okq (⟨"StoneApologies$Quarry", "soften", "(II)V"⟩, 8) := ⟨⟨by decide +kernel, by decide +kernel⟩, List.mem_of_getElem? (i := 108) (by decide +kernel), List.mem_of_getElem? (i := 500) (by decide +kernel), List.mem_of_getElem? (i := 501) (by decide +kernel)⟩
theorem lw_p13 : lw_okq (⟨"StoneApologies$Quarry", "belies", "(III)Z"⟩, 8) := ⟨⟨by decide +kernel, by decide +kernel⟩, List.mem_of_getElem? (i := 108) (by decide +kernel), List.mem_of_getElem? (i := 529) (by decide +kernel), List.mem_of_getElem? (i := 530) (by decide +kernel)⟩
theorem lw_p14 : lw_okq (⟨"StoneApologies$Rows", "shift", "(IIIII)V"⟩, 2) := ⟨⟨by decide +kernel, by decide +kernel⟩, List.mem_of_getElem? (i := 169) (by decide +kernel), List.mem_of_getElem? (i := 581) (by decide +kernel), List.mem_of_getElem? (i := 582) (by decide +kernel)⟩
theorem lw_p15 : lw_okq (⟨"StoneApologies$Quarry", "dearestWord", "(II)I"⟩, 8) := ⟨⟨by decide +kernel, by decide +kernel⟩, List.mem_of_getElem? (i := 108) (by decide +kernel), List.mem_of_getElem? (i := 629) (by decide +kernel), List.mem_of_getElem? (i := 630) (by decide +kernel)⟩
def lw_privs_1 : List (MethodName × Nat) := [(⟨"StoneApologies", "layOut", "()V"⟩, 9), (⟨"StoneApologies$Text", "readItem", "(LStoneApologies$Bed;)Z"⟩, 4), (⟨"StoneApologies$Text", "letterAt", "(I)I"⟩, 4), (⟨"StoneApologies$Text", "readNumbers", "()I"⟩, 4), (⟨"StoneApologies$Text", "readNumber", "()I"⟩, 4), (⟨"StoneApologies$Bed", "plainWorth", "(II)I"⟩, 12), (⟨"StoneApologies$Bed", "spokenWorth", "(IIII)I"⟩, 12), (⟨"StoneApologies", "isBlock", "(I)Z"⟩, 9), (⟨"StoneApologies", "isWord", "(I)Z"⟩, 9), (⟨"StoneApologies", "isSpeaker", "(I)Z"⟩, 9), (⟨"StoneApologies", "isSaying", "(III)Z"⟩, 9), (⟨"StoneApologies$Quarry", "hearsThrough", "(II)Z"⟩, 8), (⟨"StoneApologies$Quarry", "soften", "(II)V"⟩, 8), (⟨"StoneApologies$Quarry", "belies", "(III)Z"⟩, 8), (⟨"StoneApologies$Rows", "shift", "(IIIII)V"⟩, 2), (⟨"StoneApologies$Quarry", "dearestWord", "(II)I"⟩, 8)]
theorem lw_r1 : ∀ q ∈ lw_privs_1, lw_okq q := List.forall_mem_cons.mpr ⟨lw_p0, List.forall_mem_cons.mpr ⟨lw_p1, List.forall_mem_cons.mpr ⟨lw_p2, List.forall_mem_cons.mpr ⟨lw_p3, List.forall_mem_cons.mpr ⟨lw_p4, List.forall_mem_cons.mpr ⟨lw_p5, List.forall_mem_cons.mpr ⟨lw_p6, List.forall_mem_cons.mpr ⟨lw_p7, List.forall_mem_cons.mpr ⟨lw_p8, List.forall_mem_cons.mpr ⟨lw_p9, List.forall_mem_cons.mpr ⟨lw_p10, List.forall_mem_cons.mpr ⟨lw_p11, List.forall_mem_cons.mpr ⟨lw_p12, List.forall_mem_cons.mpr ⟨lw_p13, List.forall_mem_cons.mpr ⟨lw_p14, List.forall_mem_cons.mpr ⟨lw_p15, fun _ h => absurd h List.not_mem_nil⟩⟩⟩⟩⟩⟩⟩⟩⟩⟩⟩⟩⟩⟩⟩⟩
theorem lw_p16 : lw_okq (⟨"StoneApologies$Quarry", "harmOf", "(II)I"⟩, 8) := ⟨⟨by decide +kernel, by decide +kernel⟩, List.mem_of_getElem? (i := 108) (by decide +kernel), List.mem_of_getElem? (i := 652) (by decide +kernel), List.mem_of_getElem? (i := 653) (by decide +kernel)⟩
theorem lw_p17 : lw_okq (⟨"StoneApologies$Quarry", "explainsOne", "(II)Z"⟩, 8) := ⟨⟨by decide +kernel, by decide +kernel⟩, List.mem_of_getElem? (i := 108) (by decide +kernel), List.mem_of_getElem? (i := 671) (by decide +kernel), List.mem_of_getElem? (i := 672) (by decide +kernel)⟩
theorem lw_p18 : lw_okq (⟨"StoneApologiesModel", "starts", "()V"⟩, 30) := ⟨⟨by decide +kernel, by decide +kernel⟩, List.mem_of_getElem? (i := 724) (by decide +kernel), List.mem_of_getElem? (i := 730) (by decide +kernel), List.mem_of_getElem? (i := 731) (by decide +kernel)⟩
theorem lw_p19 : lw_okq (⟨"StoneApologiesModel", "addsBlock", "(II)V"⟩, 30) := ⟨⟨by decide +kernel, by decide +kernel⟩, List.mem_of_getElem? (i := 724) (by decide +kernel), List.mem_of_getElem? (i := 734) (by decide +kernel), List.mem_of_getElem? (i := 735) (by decide +kernel)⟩
theorem lw_p20 : lw_okq (⟨"StoneApologiesModel", "addsWord", "(I)V"⟩, 30) := ⟨⟨by decide +kernel, by decide +kernel⟩, List.mem_of_getElem? (i := 724) (by decide +kernel), List.mem_of_getElem? (i := 738) (by decide +kernel), List.mem_of_getElem? (i := 739) (by decide +kernel)⟩
theorem lw_p21 : lw_okq (⟨"StoneApologiesModel", "addsSpeaker", "(II)V"⟩, 30) := ⟨⟨by decide +kernel, by decide +kernel⟩, List.mem_of_getElem? (i := 724) (by decide +kernel), List.mem_of_getElem? (i := 742) (by decide +kernel), List.mem_of_getElem? (i := 743) (by decide +kernel)⟩
theorem lw_p22 : lw_okq (⟨"StoneApologiesModel", "begins", "()V"⟩, 30) := ⟨⟨by decide +kernel, by decide +kernel⟩, List.mem_of_getElem? (i := 724) (by decide +kernel), List.mem_of_getElem? (i := 746) (by decide +kernel), List.mem_of_getElem? (i := 747) (by decide +kernel)⟩
theorem lw_p23 : lw_okq (⟨"StoneApologiesModel", "faultOf", "()I"⟩, 30) := ⟨⟨by decide +kernel, by decide +kernel⟩, List.mem_of_getElem? (i := 724) (by decide +kernel), List.mem_of_getElem? (i := 858) (by decide +kernel), List.mem_of_getElem? (i := 859) (by decide +kernel)⟩
theorem lw_p24 : lw_okq (⟨"StoneApologiesModel", "takesItem", "()Z"⟩, 30) := ⟨⟨by decide +kernel, by decide +kernel⟩, List.mem_of_getElem? (i := 724) (by decide +kernel), List.mem_of_getElem? (i := 862) (by decide +kernel), List.mem_of_getElem? (i := 863) (by decide +kernel)⟩
theorem lw_p25 : lw_okq (⟨"StoneApologiesModel", "letterAt", "(I)I"⟩, 30) := ⟨⟨by decide +kernel, by decide +kernel⟩, List.mem_of_getElem? (i := 724) (by decide +kernel), List.mem_of_getElem? (i := 866) (by decide +kernel), List.mem_of_getElem? (i := 867) (by decide +kernel)⟩
theorem lw_p26 : lw_okq (⟨"StoneApologiesModel", "takesBlock", "()Z"⟩, 30) := ⟨⟨by decide +kernel, by decide +kernel⟩, List.mem_of_getElem? (i := 724) (by decide +kernel), List.mem_of_getElem? (i := 870) (by decide +kernel), List.mem_of_getElem? (i := 871) (by decide +kernel)⟩
theorem lw_p27 : lw_okq (⟨"StoneApologiesModel", "takesNumber", "(III)Z"⟩, 30) := ⟨⟨by decide +kernel, by decide +kernel⟩, List.mem_of_getElem? (i := 724) (by decide +kernel), List.mem_of_getElem? (i := 874) (by decide +kernel), List.mem_of_getElem? (i := 875) (by decide +kernel)⟩
theorem lw_p28 : lw_okq (⟨"StoneApologiesModel", "takesWord", "()Z"⟩, 30) := ⟨⟨by decide +kernel, by decide +kernel⟩, List.mem_of_getElem? (i := 724) (by decide +kernel), List.mem_of_getElem? (i := 880) (by decide +kernel), List.mem_of_getElem? (i := 881) (by decide +kernel)⟩
theorem lw_p29 : lw_okq (⟨"StoneApologiesModel", "takesSpeaker", "()Z"⟩, 30) := ⟨⟨by decide +kernel, by decide +kernel⟩, List.mem_of_getElem? (i := 724) (by decide +kernel), List.mem_of_getElem? (i := 884) (by decide +kernel), List.mem_of_getElem? (i := 885) (by decide +kernel)⟩
theorem lw_p30 : lw_okq (⟨"StoneApologiesModel", "takesFrost", "()Z"⟩, 30) := ⟨⟨by decide +kernel, by decide +kernel⟩, List.mem_of_getElem? (i := 724) (by decide +kernel), List.mem_of_getElem? (i := 888) (by decide +kernel), List.mem_of_getElem? (i := 889) (by decide +kernel)⟩
theorem lw_p31 : lw_okq (⟨"StoneApologiesModel", "takesPromise", "()Z"⟩, 30) := ⟨⟨by decide +kernel, by decide +kernel⟩, List.mem_of_getElem? (i := 724) (by decide +kernel), List.mem_of_getElem? (i := 892) (by decide +kernel), List.mem_of_getElem? (i := 893) (by decide +kernel)⟩
def lw_privs_2 : List (MethodName × Nat) := [(⟨"StoneApologies$Quarry", "harmOf", "(II)I"⟩, 8), (⟨"StoneApologies$Quarry", "explainsOne", "(II)Z"⟩, 8), (⟨"StoneApologiesModel", "starts", "()V"⟩, 30), (⟨"StoneApologiesModel", "addsBlock", "(II)V"⟩, 30), (⟨"StoneApologiesModel", "addsWord", "(I)V"⟩, 30), (⟨"StoneApologiesModel", "addsSpeaker", "(II)V"⟩, 30), (⟨"StoneApologiesModel", "begins", "()V"⟩, 30), (⟨"StoneApologiesModel", "faultOf", "()I"⟩, 30), (⟨"StoneApologiesModel", "takesItem", "()Z"⟩, 30), (⟨"StoneApologiesModel", "letterAt", "(I)I"⟩, 30), (⟨"StoneApologiesModel", "takesBlock", "()Z"⟩, 30), (⟨"StoneApologiesModel", "takesNumber", "(III)Z"⟩, 30), (⟨"StoneApologiesModel", "takesWord", "()Z"⟩, 30), (⟨"StoneApologiesModel", "takesSpeaker", "()Z"⟩, 30), (⟨"StoneApologiesModel", "takesFrost", "()Z"⟩, 30), (⟨"StoneApologiesModel", "takesPromise", "()Z"⟩, 30)]
theorem lw_r2 : ∀ q ∈ lw_privs_2, lw_okq q := List.forall_mem_cons.mpr ⟨lw_p16, List.forall_mem_cons.mpr ⟨lw_p17, List.forall_mem_cons.mpr ⟨lw_p18, List.forall_mem_cons.mpr ⟨lw_p19, List.forall_mem_cons.mpr ⟨lw_p20, List.forall_mem_cons.mpr ⟨lw_p21, List.forall_mem_cons.mpr ⟨lw_p22, List.forall_mem_cons.mpr ⟨lw_p23, List.forall_mem_cons.mpr ⟨lw_p24, List.forall_mem_cons.mpr ⟨lw_p25, List.forall_mem_cons.mpr ⟨lw_p26, List.forall_mem_cons.mpr ⟨lw_p27, List.forall_mem_cons.mpr ⟨lw_p28, List.forall_mem_cons.mpr ⟨lw_p29, List.forall_mem_cons.mpr ⟨lw_p30, List.forall_mem_cons.mpr ⟨lw_p31, fun _ h => absurd h List.not_mem_nil⟩⟩⟩⟩⟩⟩⟩⟩⟩⟩⟩⟩⟩⟩⟩⟩
theorem lw_p32 : lw_okq (⟨"StoneApologiesModel", "isBlock", "(I)Z"⟩, 30) := ⟨⟨by decide +kernel, by decide +kernel⟩, List.mem_of_getElem? (i := 724) (by decide +kernel), List.mem_of_getElem? (i := 904) (by decide +kernel), List.mem_of_getElem? (i := 905) (by decide +kernel)⟩
theorem lw_p33 : lw_okq (⟨"StoneApologiesModel", "isWord", "(I)Z"⟩, 30) := ⟨⟨by decide +kernel, by decide +kernel⟩, List.mem_of_getElem? (i := 724) (by decide +kernel), List.mem_of_getElem? (i := 912) (by decide +kernel), List.mem_of_getElem? (i := 913) (by decide +kernel)⟩
theorem lw_p34 : lw_okq (⟨"StoneApologiesModel", "isSpeaker", "(I)Z"⟩, 30) := ⟨⟨by decide +kernel, by decide +kernel⟩, List.mem_of_getElem? (i := 724) (by decide +kernel), List.mem_of_getElem? (i := 920) (by decide +kernel), List.mem_of_getElem? (i := 921) (by decide +kernel)⟩
theorem lw_p35 : lw_okq (⟨"StoneApologiesModel", "worthOf", "(IIII)I"⟩, 30) := ⟨⟨by decide +kernel, by decide +kernel⟩, List.mem_of_getElem? (i := 724) (by decide +kernel), List.mem_of_getElem? (i := 936) (by decide +kernel), List.mem_of_getElem? (i := 937) (by decide +kernel)⟩
theorem lw_p36 : lw_okq (⟨"StoneApologiesModel", "spoken", "(III)I"⟩, 30) := ⟨⟨by decide +kernel, by decide +kernel⟩, List.mem_of_getElem? (i := 724) (by decide +kernel), List.mem_of_getElem? (i := 940) (by decide +kernel), List.mem_of_getElem? (i := 941) (by decide +kernel)⟩
theorem lw_p37 : lw_okq (⟨"StoneApologiesModel", "byKind", "(II)I"⟩, 30) := ⟨⟨by decide +kernel, by decide +kernel⟩, List.mem_of_getElem? (i := 724) (by decide +kernel), List.mem_of_getElem? (i := 944) (by decide +kernel), List.mem_of_getElem? (i := 945) (by decide +kernel)⟩
theorem lw_p38 : lw_okq (⟨"StoneApologiesModel", "heardOf", "(III)I"⟩, 30) := ⟨⟨by decide +kernel, by decide +kernel⟩, List.mem_of_getElem? (i := 724) (by decide +kernel), List.mem_of_getElem? (i := 948) (by decide +kernel), List.mem_of_getElem? (i := 949) (by decide +kernel)⟩
theorem lw_p39 : lw_okq (⟨"StoneApologiesModel", "canSay", "(III)Z"⟩, 30) := ⟨⟨by decide +kernel, by decide +kernel⟩, List.mem_of_getElem? (i := 724) (by decide +kernel), List.mem_of_getElem? (i := 959) (by decide +kernel), List.mem_of_getElem? (i := 960) (by decide +kernel)⟩
theorem lw_p40 : lw_okq (⟨"StoneApologiesModel", "inBed", "(II)Z"⟩, 30) := ⟨⟨by decide +kernel, by decide +kernel⟩, List.mem_of_getElem? (i := 724) (by decide +kernel), List.mem_of_getElem? (i := 963) (by decide +kernel), List.mem_of_getElem? (i := 964) (by decide +kernel)⟩
theorem lw_p41 : lw_okq (⟨"StoneApologiesModel", "minds", "()V"⟩, 30) := ⟨⟨by decide +kernel, by decide +kernel⟩, List.mem_of_getElem? (i := 724) (by decide +kernel), List.mem_of_getElem? (i := 967) (by decide +kernel), List.mem_of_getElem? (i := 968) (by decide +kernel)⟩
theorem lw_p42 : lw_okq (⟨"StoneApologiesModel", "copy", "(II)V"⟩, 30) := ⟨⟨by decide +kernel, by decide +kernel⟩, List.mem_of_getElem? (i := 724) (by decide +kernel), List.mem_of_getElem? (i := 971) (by decide +kernel), List.mem_of_getElem? (i := 972) (by decide +kernel)⟩
theorem lw_p43 : lw_okq (⟨"StoneApologiesModel", "says", "(IIII)V"⟩, 30) := ⟨⟨by decide +kernel, by decide +kernel⟩, List.mem_of_getElem? (i := 724) (by decide +kernel), List.mem_of_getElem? (i := 975) (by decide +kernel), List.mem_of_getElem? (i := 976) (by decide +kernel)⟩
theorem lw_p44 : lw_okq (⟨"StoneApologiesModel", "hears", "(III)Z"⟩, 30) := ⟨⟨by decide +kernel, by decide +kernel⟩, List.mem_of_getElem? (i := 724) (by decide +kernel), List.mem_of_getElem? (i := 979) (by decide +kernel), List.mem_of_getElem? (i := 980) (by decide +kernel)⟩
theorem lw_p45 : lw_okq (⟨"StoneApologiesModel", "comes", "(II)V"⟩, 30) := ⟨⟨by decide +kernel, by decide +kernel⟩, List.mem_of_getElem? (i := 724) (by decide +kernel), List.mem_of_getElem? (i := 983) (by decide +kernel), List.mem_of_getElem? (i := 984) (by decide +kernel)⟩
theorem lw_p46 : lw_okq (⟨"StoneApologiesModel", "takesFor", "(III)V"⟩, 30) := ⟨⟨by decide +kernel, by decide +kernel⟩, List.mem_of_getElem? (i := 724) (by decide +kernel), List.mem_of_getElem? (i := 996) (by decide +kernel), List.mem_of_getElem? (i := 997) (by decide +kernel)⟩
theorem lw_p47 : lw_okq (⟨"StoneApologiesModel", "isElse", "(III)Z"⟩, 30) := ⟨⟨by decide +kernel, by decide +kernel⟩, List.mem_of_getElem? (i := 724) (by decide +kernel), List.mem_of_getElem? (i := 1000) (by decide +kernel), List.mem_of_getElem? (i := 1001) (by decide +kernel)⟩
def lw_privs_3 : List (MethodName × Nat) := [(⟨"StoneApologiesModel", "isBlock", "(I)Z"⟩, 30), (⟨"StoneApologiesModel", "isWord", "(I)Z"⟩, 30), (⟨"StoneApologiesModel", "isSpeaker", "(I)Z"⟩, 30), (⟨"StoneApologiesModel", "worthOf", "(IIII)I"⟩, 30), (⟨"StoneApologiesModel", "spoken", "(III)I"⟩, 30), (⟨"StoneApologiesModel", "byKind", "(II)I"⟩, 30), (⟨"StoneApologiesModel", "heardOf", "(III)I"⟩, 30), (⟨"StoneApologiesModel", "canSay", "(III)Z"⟩, 30), (⟨"StoneApologiesModel", "inBed", "(II)Z"⟩, 30), (⟨"StoneApologiesModel", "minds", "()V"⟩, 30), (⟨"StoneApologiesModel", "copy", "(II)V"⟩, 30), (⟨"StoneApologiesModel", "says", "(IIII)V"⟩, 30), (⟨"StoneApologiesModel", "hears", "(III)Z"⟩, 30), (⟨"StoneApologiesModel", "comes", "(II)V"⟩, 30), (⟨"StoneApologiesModel", "takesFor", "(III)V"⟩, 30), (⟨"StoneApologiesModel", "isElse", "(III)Z"⟩, 30)]
theorem lw_r3 : ∀ q ∈ lw_privs_3, lw_okq q := List.forall_mem_cons.mpr ⟨lw_p32, List.forall_mem_cons.mpr ⟨lw_p33, List.forall_mem_cons.mpr ⟨lw_p34, List.forall_mem_cons.mpr ⟨lw_p35, List.forall_mem_cons.mpr ⟨lw_p36, List.forall_mem_cons.mpr ⟨lw_p37, List.forall_mem_cons.mpr ⟨lw_p38, List.forall_mem_cons.mpr ⟨lw_p39, List.forall_mem_cons.mpr ⟨lw_p40, List.forall_mem_cons.mpr ⟨lw_p41, List.forall_mem_cons.mpr ⟨lw_p42, List.forall_mem_cons.mpr ⟨lw_p43, List.forall_mem_cons.mpr ⟨lw_p44, List.forall_mem_cons.mpr ⟨lw_p45, List.forall_mem_cons.mpr ⟨lw_p46, List.forall_mem_cons.mpr ⟨lw_p47, fun _ h => absurd h List.not_mem_nil⟩⟩⟩⟩⟩⟩⟩⟩⟩⟩⟩⟩⟩⟩⟩⟩
theorem lw_p48 : lw_okq (⟨"StoneApologiesModel", "passes", "(I)V"⟩, 30) := ⟨⟨by decide +kernel, by decide +kernel⟩, List.mem_of_getElem? (i := 724) (by decide +kernel), List.mem_of_getElem? (i := 1009) (by decide +kernel), List.mem_of_getElem? (i := 1010) (by decide +kernel)⟩
theorem lw_p49 : lw_okq (⟨"StoneApologiesModel", "bringsOut", "(II)Z"⟩, 30) := ⟨⟨by decide +kernel, by decide +kernel⟩, List.mem_of_getElem? (i := 724) (by decide +kernel), List.mem_of_getElem? (i := 1021) (by decide +kernel), List.mem_of_getElem? (i := 1022) (by decide +kernel)⟩
theorem lw_p50 : lw_okq (⟨"StoneApologiesModel", "bestOf", "(II)I"⟩, 30) := ⟨⟨by decide +kernel, by decide +kernel⟩, List.mem_of_getElem? (i := 724) (by decide +kernel), List.mem_of_getElem? (i := 1029) (by decide +kernel), List.mem_of_getElem? (i := 1030) (by decide +kernel)⟩
theorem lw_p51 : lw_okq (⟨"StoneApologiesModel", "bestOrder", "()I"⟩, 30) := ⟨⟨by decide +kernel, by decide +kernel⟩, List.mem_of_getElem? (i := 724) (by decide +kernel), List.mem_of_getElem? (i := 1037) (by decide +kernel), List.mem_of_getElem? (i := 1038) (by decide +kernel)⟩
theorem lw_p52 : lw_okq (⟨"StoneApologiesModel", "bedOf", "()I"⟩, 30) := ⟨⟨by decide +kernel, by decide +kernel⟩, List.mem_of_getElem? (i := 724) (by decide +kernel), List.mem_of_getElem? (i := 1041) (by decide +kernel), List.mem_of_getElem? (i := 1042) (by decide +kernel)⟩
theorem lw_p53 : lw_okq (⟨"StoneApologiesModel", "asks", "(II)V"⟩, 30) := ⟨⟨by decide +kernel, by decide +kernel⟩, List.mem_of_getElem? (i := 724) (by decide +kernel), List.mem_of_getElem? (i := 1051) (by decide +kernel), List.mem_of_getElem? (i := 1052) (by decide +kernel)⟩
theorem lw_p54 : lw_okq (⟨"StoneApologiesModel", "tries", "()V"⟩, 30) := ⟨⟨by decide +kernel, by decide +kernel⟩, List.mem_of_getElem? (i := 724) (by decide +kernel), List.mem_of_getElem? (i := 1059) (by decide +kernel), List.mem_of_getElem? (i := 1060) (by decide +kernel)⟩
theorem lw_p55 : lw_okq (⟨"StoneApologiesModel", "bestWord", "(II)I"⟩, 30) := ⟨⟨by decide +kernel, by decide +kernel⟩, List.mem_of_getElem? (i := 724) (by decide +kernel), List.mem_of_getElem? (i := 1063) (by decide +kernel), List.mem_of_getElem? (i := 1064) (by decide +kernel)⟩
theorem lw_p56 : lw_okq (⟨"StoneApologiesModel", "harmOf", "(II)I"⟩, 30) := ⟨⟨by decide +kernel, by decide +kernel⟩, List.mem_of_getElem? (i := 724) (by decide +kernel), List.mem_of_getElem? (i := 1080) (by decide +kernel), List.mem_of_getElem? (i := 1081) (by decide +kernel)⟩
theorem lw_p57 : lw_okq (⟨"StoneApologiesModel", "lies", "(II)Z"⟩, 30) := ⟨⟨by decide +kernel, by decide +kernel⟩, List.mem_of_getElem? (i := 724) (by decide +kernel), List.mem_of_getElem? (i := 1088) (by decide +kernel), List.mem_of_getElem? (i := 1089) (by decide +kernel)⟩
theorem lw_p58 : lw_okq (⟨"StoneApologiesModel", "doesBy", "(I)V"⟩, 30) := ⟨⟨by decide +kernel, by decide +kernel⟩, List.mem_of_getElem? (i := 724) (by decide +kernel), List.mem_of_getElem? (i := 1112) (by decide +kernel), List.mem_of_getElem? (i := 1113) (by decide +kernel)⟩
theorem lw_p59 : lw_okq (⟨"StoneApologiesModel", "manyHow", "(II)I"⟩, 30) := ⟨⟨by decide +kernel, by decide +kernel⟩, List.mem_of_getElem? (i := 724) (by decide +kernel), List.mem_of_getElem? (i := 1116) (by decide +kernel), List.mem_of_getElem? (i := 1117) (by decide +kernel)⟩
def lw_privs_4 : List (MethodName × Nat) := [(⟨"StoneApologiesModel", "passes", "(I)V"⟩, 30), (⟨"StoneApologiesModel", "bringsOut", "(II)Z"⟩, 30), (⟨"StoneApologiesModel", "bestOf", "(II)I"⟩, 30), (⟨"StoneApologiesModel", "bestOrder", "()I"⟩, 30), (⟨"StoneApologiesModel", "bedOf", "()I"⟩, 30), (⟨"StoneApologiesModel", "asks", "(II)V"⟩, 30), (⟨"StoneApologiesModel", "tries", "()V"⟩, 30), (⟨"StoneApologiesModel", "bestWord", "(II)I"⟩, 30), (⟨"StoneApologiesModel", "harmOf", "(II)I"⟩, 30), (⟨"StoneApologiesModel", "lies", "(II)Z"⟩, 30), (⟨"StoneApologiesModel", "doesBy", "(I)V"⟩, 30), (⟨"StoneApologiesModel", "manyHow", "(II)I"⟩, 30)]
theorem lw_r4 : ∀ q ∈ lw_privs_4, lw_okq q := List.forall_mem_cons.mpr ⟨lw_p48, List.forall_mem_cons.mpr ⟨lw_p49, List.forall_mem_cons.mpr ⟨lw_p50, List.forall_mem_cons.mpr ⟨lw_p51, List.forall_mem_cons.mpr ⟨lw_p52, List.forall_mem_cons.mpr ⟨lw_p53, List.forall_mem_cons.mpr ⟨lw_p54, List.forall_mem_cons.mpr ⟨lw_p55, List.forall_mem_cons.mpr ⟨lw_p56, List.forall_mem_cons.mpr ⟨lw_p57, List.forall_mem_cons.mpr ⟨lw_p58, List.forall_mem_cons.mpr ⟨lw_p59, fun _ h => absurd h List.not_mem_nil⟩⟩⟩⟩⟩⟩⟩⟩⟩⟩⟩⟩
def lw_privs : List (MethodName × Nat) := lw_privs_1 ++ (lw_privs_2 ++ (lw_privs_3 ++ (lw_privs_4)))
def lw_tbl : List Cond := k2_sels lw_privs ++ tables_1
theorem lw_privs_ok : ∀ q ∈ lw_privs, lw_okq q := by
  show ∀ q ∈ lw_privs_1 ++ (lw_privs_2 ++ (lw_privs_3 ++ (lw_privs_4))), lw_okq q
  exact List.forall_mem_append.mpr ⟨lw_r1, List.forall_mem_append.mpr ⟨lw_r2, List.forall_mem_append.mpr ⟨lw_r3, lw_r4⟩⟩⟩
end
section
/-! ===== BEGIN words of one list among another's, by their places ===== -/
theorem goodIn_r {big : List Cond} (ws : List Cond) (ps : List Nat) (hp : ws = ps.filterMap (fun i => big[i]?)) (h : ws.all goodWord = true) : GoodIn big ws := by
  intro w hw
  have h1 := List.all_eq_true.mp h w hw
  rw [hp] at hw
  obtain ⟨i, -, hi⟩ := List.mem_filterMap.mp hw
  have hm : w ∈ big := by first | exact List.mem_of_getElem? hi | exact List.getElem?_mem hi
  exact ⟨hm, good_of_word h1⟩
theorem goodIn_app {big a b : List Cond} (ha : GoodIn big a) (hb : GoodIn big b) : GoodIn big (a ++ b) := fun w h => (List.mem_append.mp h).elim (ha w) (hb w)
theorem goodIn_ca {big a b : List Cond} {c : Cond} (ha : GoodIn big (c :: a)) (hb : GoodIn big b) : GoodIn big (c :: (a ++ b)) := fun w h => (List.mem_cons.mp h).elim (fun e => ha w (List.mem_cons.mpr (Or.inl e))) (fun h => (List.mem_append.mp h).elim (fun h => ha w (List.mem_cons.mpr (Or.inr h))) (hb w))
theorem goodIn_sub {big ws : List Cond} (hm : ∀ w ∈ ws, w ∈ big) (h : ws.all goodWord = true) : GoodIn big ws := fun w hw => ⟨hm w hw, good_of_word (List.all_eq_true.mp h w hw)⟩
/-! ===== END ===== -/

/-! ===== BEGIN printed: names, fields, word lists, decode rows ===== -/
def RX0 : String := "StoneApologies$Bed"
def TX0 : u_T := fun k => match k with
  | 0 => ("StoneApologies$Bed", "blocks", "I", false)
  | 1 => ("StoneApologies$Bed", "words", "I", false)
  | 2 => ("StoneApologies$Bed", "speakers", "I", false)
  | 3 => ("StoneApologies$Bed", "chill", "I", false)
  | 4 => ("StoneApologies$Bed", "blockKinds", "[I", true)
  | 5 => ("StoneApologies$Bed", "needs", "[I", true)
  | 6 => ("StoneApologies$Bed", "wordWorths", "[I", true)
  | 7 => ("StoneApologies$Bed", "speakerKinds", "[I", true)
  | 8 => ("StoneApologies$Bed", "dayHours", "[I", true)
  | 9 => ("StoneApologies$Bed", "firstVows", "[I", true)
  | 10 => ("StoneApologies$Bed", "plainWorths", "[I", true)
  | _ => ("StoneApologies$Bed", "freshWorths", "[I", true)
def tyX0 : Nat → FieldType := fun k => match k with
  | 0 => .int
  | 1 => .int
  | 2 => .int
  | 3 => .int
  | 4 => .array .int
  | 5 => .array .int
  | 6 => .array .int
  | 7 => .array .int
  | 8 => .array .int
  | 9 => .array .int
  | 10 => .array .int
  | _ => .array .int
abbrev wsX00 : List Cond := u_ws RX0 TX0 12
theorem nmX0 : ∀ a, a < 12 → ∀ b, b < 12 → a ≠ b → (TX0 a).2.1 ≠ (TX0 b).2.1 := by decide +kernel
theorem tyX0_ok : ∀ k, k < 12 → parseFieldDescriptor (TX0 k).2.2.1 = some (tyX0 k) := by decide +kernel
abbrev cX0_init : ByteArray := prog_2_method_1_code
def yX0_init : MethodName := ⟨RX0, "<init>", "()V"⟩
abbrev cX0_clear : ByteArray := prog_2_method_2_code
def yX0_clear : MethodName := ⟨RX0, "clear", "()V"⟩
abbrev cX0_isWhole : ByteArray := prog_2_method_3_code
def yX0_isWhole : MethodName := ⟨RX0, "isWhole", "()Z"⟩
abbrev cX0_addBlock : ByteArray := prog_2_method_4_code
def yX0_addBlock : MethodName := ⟨RX0, "addBlock", "(II)Z"⟩
abbrev cX0_addWord : ByteArray := prog_2_method_5_code
def yX0_addWord : MethodName := ⟨RX0, "addWord", "(I)Z"⟩
abbrev cX0_addSpeaker : ByteArray := prog_2_method_6_code
def yX0_addSpeaker : MethodName := ⟨RX0, "addSpeaker", "(II)Z"⟩
abbrev cX0_setFrost : ByteArray := prog_2_method_7_code
def yX0_setFrost : MethodName := ⟨RX0, "setFrost", "(I)Z"⟩
abbrev cX0_addVow : ByteArray := prog_2_method_8_code
def yX0_addVow : MethodName := ⟨RX0, "addVow", "(III)Z"⟩
abbrev cX0_reckon : ByteArray := prog_2_method_9_code
def yX0_reckon : MethodName := ⟨RX0, "reckon", "()V"⟩
abbrev cX0_plainWorth : ByteArray := prog_2_method_10_code
def yX0_plainWorth : MethodName := ⟨RX0, "plainWorth", "(II)I"⟩
abbrev cX0_spokenWorth : ByteArray := prog_2_method_11_code
def yX0_spokenWorth : MethodName := ⟨RX0, "spokenWorth", "(IIII)I"⟩
abbrev cX0_coldFor : ByteArray := prog_2_method_12_code
def yX0_coldFor : MethodName := ⟨RX0, "coldFor", "(I)I"⟩
abbrev cX0_vowPlace : ByteArray := prog_2_method_13_code
def yX0_vowPlace : MethodName := ⟨RX0, "vowPlace", "(II)I"⟩
abbrev cX0_wordPlace : ByteArray := prog_2_method_14_code
def yX0_wordPlace : MethodName := ⟨RX0, "wordPlace", "(II)I"⟩
abbrev cX0_sayingPlace : ByteArray := prog_2_method_15_code
def yX0_sayingPlace : MethodName := ⟨RX0, "sayingPlace", "(III)I"⟩
def RX1 : String := "StoneApologies$Orders"
def TX1 : u_T := fun k => match k with
  | 0 => ("StoneApologies$Orders", "steps", "[LStoneApologies$Quarry;", true)
  | 1 => ("StoneApologies$Orders", "row", "[I", true)
  | 2 => ("StoneApologies$Orders", "found", "[I", true)
  | 3 => ("StoneApologies$Orders", "asked", "I", false)
  | _ => ("StoneApologies$Orders", "most", "I", false)
def tyX1 : Nat → FieldType := fun k => match k with
  | 0 => .array (.object "StoneApologies$Quarry")
  | 1 => .array .int
  | 2 => .array .int
  | 3 => .int
  | _ => .int
abbrev wsX10 : List Cond := u_ws RX1 TX1 5
theorem nmX1 : ∀ a, a < 5 → ∀ b, b < 5 → a ≠ b → (TX1 a).2.1 ≠ (TX1 b).2.1 := by decide +kernel
theorem tyX1_ok : ∀ k, k < 5 → parseFieldDescriptor (TX1 k).2.2.1 = some (tyX1 k) := by decide +kernel
abbrev cX1_init : ByteArray := prog_3_method_1_code
def yX1_init : MethodName := ⟨RX1, "<init>", "(LStoneApologies$Bed;)V"⟩
abbrev cX1_seek : ByteArray := prog_3_method_2_code
def yX1_seek : MethodName := ⟨RX1, "seek", "(LStoneApologies$Quarry;)V"⟩
abbrev cX1_extend : ByteArray := prog_3_method_3_code
def yX1_extend : MethodName := ⟨RX1, "extend", "(LStoneApologies$Orders;III)V"⟩
def RX2 : String := "StoneApologies$Pile"
def TX2 : u_T := fun k => match k with
  | 0 => ("StoneApologies$Pile", "slots", "[LStoneApologies$Quarry;", true)
  | 1 => ("StoneApologies$Pile", "next", "I", false)
  | _ => ("StoneApologies$Pile", "size", "I", false)
def tyX2 : Nat → FieldType := fun k => match k with
  | 0 => .array (.object "StoneApologies$Quarry")
  | 1 => .int
  | _ => .int
abbrev wsX20 : List Cond := u_ws RX2 TX2 3
theorem nmX2 : ∀ a, a < 3 → ∀ b, b < 3 → a ≠ b → (TX2 a).2.1 ≠ (TX2 b).2.1 := by decide +kernel
theorem tyX2_ok : ∀ k, k < 3 → parseFieldDescriptor (TX2 k).2.2.1 = some (tyX2 k) := by decide +kernel
abbrev cX2_init : ByteArray := prog_4_method_1_code
def yX2_init : MethodName := ⟨RX2, "<init>", "(ILStoneApologies$Bed;)V"⟩
abbrev cX2_clear : ByteArray := prog_4_method_2_code
def yX2_clear : MethodName := ⟨RX2, "clear", "()V"⟩
abbrev cX2_push : ByteArray := prog_4_method_3_code
def yX2_push : MethodName := ⟨RX2, "push", "(LStoneApologies$Quarry;)V"⟩
abbrev cX2_pop : ByteArray := prog_4_method_4_code
def yX2_pop : MethodName := ⟨RX2, "pop", "(LStoneApologies$Quarry;)Z"⟩
def RX3 : String := "StoneApologies$Quarry"
def TX3 : u_T := fun k => match k with
  | 0 => ("StoneApologies$Quarry", "bed", "LStoneApologies$Bed;", true)
  | 1 => ("StoneApologies$Quarry", "day", "I", false)
  | 2 => ("StoneApologies$Quarry", "softness", "[I", true)
  | 3 => ("StoneApologies$Quarry", "places", "[I", true)
  | 4 => ("StoneApologies$Quarry", "takenFor", "[I", true)
  | 5 => ("StoneApologies$Quarry", "hours", "[I", true)
  | 6 => ("StoneApologies$Quarry", "hearings", "[I", true)
  | _ => ("StoneApologies$Quarry", "vows", "[I", true)
def tyX3 : Nat → FieldType := fun k => match k with
  | 0 => .object "StoneApologies$Bed"
  | 1 => .int
  | 2 => .array .int
  | 3 => .array .int
  | 4 => .array .int
  | 5 => .array .int
  | 6 => .array .int
  | _ => .array .int
abbrev wsX30 : List Cond := u_ws RX3 TX3 8
theorem nmX3 : ∀ a, a < 8 → ∀ b, b < 8 → a ≠ b → (TX3 a).2.1 ≠ (TX3 b).2.1 := by decide +kernel
theorem tyX3_ok : ∀ k, k < 8 → parseFieldDescriptor (TX3 k).2.2.1 = some (tyX3 k) := by decide +kernel
abbrev cX3_init : ByteArray := prog_5_method_1_code
def yX3_init : MethodName := ⟨RX3, "<init>", "(LStoneApologies$Bed;)V"⟩
abbrev cX3_begin : ByteArray := prog_5_method_2_code
def yX3_begin : MethodName := ⟨RX3, "begin", "()V"⟩
abbrev cX3_copyFrom : ByteArray := prog_5_method_3_code
def yX3_copyFrom : MethodName := ⟨RX3, "copyFrom", "(LStoneApologies$Quarry;)V"⟩
abbrev cX3_isIn : ByteArray := prog_5_method_4_code
def yX3_isIn : MethodName := ⟨RX3, "isIn", "(II)Z"⟩
abbrev cX3_tally : ByteArray := prog_5_method_5_code
def yX3_tally : MethodName := ⟨RX3, "tally", "(I)I"⟩
abbrev cX3_hoursLeft : ByteArray := prog_5_method_6_code
def yX3_hoursLeft : MethodName := ⟨RX3, "hoursLeft", "()I"⟩
abbrev cX3_lackOf : ByteArray := prog_5_method_7_code
def yX3_lackOf : MethodName := ⟨RX3, "lackOf", "(I)I"⟩
abbrev cX3_timesHeard : ByteArray := prog_5_method_8_code
def yX3_timesHeard : MethodName := ⟨RX3, "timesHeard", "(II)I"⟩
abbrev cX3_worthOf : ByteArray := prog_5_method_9_code
def yX3_worthOf : MethodName := ⟨RX3, "worthOf", "(III)I"⟩
abbrev cX3_vowOf : ByteArray := prog_5_method_10_code
def yX3_vowOf : MethodName := ⟨RX3, "vowOf", "(II)I"⟩
abbrev cX3_canSay : ByteArray := prog_5_method_11_code
def yX3_canSay : MethodName := ⟨RX3, "canSay", "(II)Z"⟩
abbrev cX3_speak : ByteArray := prog_5_method_12_code
def yX3_speak : MethodName := ⟨RX3, "speak", "(III)V"⟩
abbrev cX3_hear : ByteArray := prog_5_method_13_code
def yX3_hear : MethodName := ⟨RX3, "hear", "(III)V"⟩
abbrev cX3_hearsThrough : ByteArray := prog_5_method_14_code
def yX3_hearsThrough : MethodName := ⟨RX3, "hearsThrough", "(II)Z"⟩
abbrev cX3_soften : ByteArray := prog_5_method_15_code
def yX3_soften : MethodName := ⟨RX3, "soften", "(II)V"⟩
abbrev cX3_vow : ByteArray := prog_5_method_16_code
def yX3_vow : MethodName := ⟨RX3, "vow", "(III)V"⟩
abbrev cX3_carryOff : ByteArray := prog_5_method_17_code
def yX3_carryOff : MethodName := ⟨RX3, "carryOff", "(II)V"⟩
abbrev cX3_wouldCrack : ByteArray := prog_5_method_18_code
def yX3_wouldCrack : MethodName := ⟨RX3, "wouldCrack", "(II)Z"⟩
abbrev cX3_belies : ByteArray := prog_5_method_19_code
def yX3_belies : MethodName := ⟨RX3, "belies", "(III)Z"⟩
abbrev cX3_night : ByteArray := prog_5_method_20_code
def yX3_night : MethodName := ⟨RX3, "night", "()V"⟩
abbrev cX3_dearest : ByteArray := prog_5_method_21_code
def yX3_dearest : MethodName := ⟨RX3, "dearest", "(I)I"⟩
abbrev cX3_askAll : ByteArray := prog_5_method_22_code
def yX3_askAll : MethodName := ⟨RX3, "askAll", "(I)V"⟩
abbrev cX3_askOne : ByteArray := prog_5_method_23_code
def yX3_askOne : MethodName := ⟨RX3, "askOne", "(II)V"⟩
abbrev cX3_dearestWord : ByteArray := prog_5_method_24_code
def yX3_dearestWord : MethodName := ⟨RX3, "dearestWord", "(II)I"⟩
abbrev cX3_mildest : ByteArray := prog_5_method_25_code
def yX3_mildest : MethodName := ⟨RX3, "mildest", "(I)I"⟩
abbrev cX3_harmOf : ByteArray := prog_5_method_26_code
def yX3_harmOf : MethodName := ⟨RX3, "harmOf", "(II)I"⟩
abbrev cX3_explains : ByteArray := prog_5_method_27_code
def yX3_explains : MethodName := ⟨RX3, "explains", "(I)Z"⟩
abbrev cX3_explainsOne : ByteArray := prog_5_method_28_code
def yX3_explainsOne : MethodName := ⟨RX3, "explainsOne", "(II)Z"⟩
abbrev cX3_softerBy : ByteArray := prog_5_method_29_code
def yX3_softerBy : MethodName := ⟨RX3, "softerBy", "(IIII)I"⟩
def RX4 : String := "StoneApologies$Rows"
def TX4 : u_T := fun k => match k with
  | 0 => ("StoneApologies$Rows", "trial", "LStoneApologies$Quarry;", true)
  | _ => ("StoneApologies$Rows", "row", "[I", true)
def tyX4 : Nat → FieldType := fun k => match k with
  | 0 => .object "StoneApologies$Quarry"
  | _ => .array .int
abbrev wsX40 : List Cond := u_ws RX4 TX4 2
theorem nmX4 : ∀ a, a < 2 → ∀ b, b < 2 → a ≠ b → (TX4 a).2.1 ≠ (TX4 b).2.1 := by decide +kernel
theorem tyX4_ok : ∀ k, k < 2 → parseFieldDescriptor (TX4 k).2.2.1 = some (tyX4 k) := by decide +kernel
abbrev cX4_init : ByteArray := prog_6_method_1_code
def yX4_init : MethodName := ⟨RX4, "<init>", "(LStoneApologies$Quarry;)V"⟩
abbrev cX4_shortest : ByteArray := prog_6_method_2_code
def yX4_shortest : MethodName := ⟨RX4, "shortest", "(I)I"⟩
abbrev cX4_extend : ByteArray := prog_6_method_3_code
def yX4_extend : MethodName := ⟨RX4, "extend", "(LStoneApologies$Rows;III)Z"⟩
abbrev cX4_shift : ByteArray := prog_6_method_4_code
def yX4_shift : MethodName := ⟨RX4, "shift", "(IIIII)V"⟩
def RX5 : String := "StoneApologies$Text"
def TX5 : u_T := fun k => match k with
  | 0 => ("StoneApologies$Text", "letters", "[I", true)
  | 1 => ("StoneApologies$Text", "numbers", "[I", true)
  | 2 => ("StoneApologies$Text", "length", "I", false)
  | _ => ("StoneApologies$Text", "place", "I", false)
def tyX5 : Nat → FieldType := fun k => match k with
  | 0 => .array .int
  | 1 => .array .int
  | 2 => .int
  | _ => .int
abbrev wsX50 : List Cond := u_ws RX5 TX5 4
theorem nmX5 : ∀ a, a < 4 → ∀ b, b < 4 → a ≠ b → (TX5 a).2.1 ≠ (TX5 b).2.1 := by decide +kernel
theorem tyX5_ok : ∀ k, k < 4 → parseFieldDescriptor (TX5 k).2.2.1 = some (tyX5 k) := by decide +kernel
abbrev cX5_init : ByteArray := prog_7_method_1_code
def yX5_init : MethodName := ⟨RX5, "<init>", "()V"⟩
abbrev cX5_append : ByteArray := prog_7_method_2_code
def yX5_append : MethodName := ⟨RX5, "append", "(I)V"⟩
abbrev cX5_readInto : ByteArray := prog_7_method_3_code
def yX5_readInto : MethodName := ⟨RX5, "readInto", "(LStoneApologies$Bed;)I"⟩
abbrev cX5_readItem : ByteArray := prog_7_method_4_code
def yX5_readItem : MethodName := ⟨RX5, "readItem", "(LStoneApologies$Bed;)Z"⟩
abbrev cX5_readNumbers : ByteArray := prog_7_method_5_code
def yX5_readNumbers : MethodName := ⟨RX5, "readNumbers", "()I"⟩
abbrev cX5_readNumber : ByteArray := prog_7_method_6_code
def yX5_readNumber : MethodName := ⟨RX5, "readNumber", "()I"⟩
abbrev cX5_letterAt : ByteArray := prog_7_method_7_code
def yX5_letterAt : MethodName := ⟨RX5, "letterAt", "(I)I"⟩
def RX6 : String := "StoneApologies"
def TX6 : u_T := fun k => match k with
  | 0 => ("StoneApologies", "text", "LStoneApologies$Text;", true)
  | 1 => ("StoneApologies", "bed", "LStoneApologies$Bed;", true)
  | 2 => ("StoneApologies", "draft", "LStoneApologies$Bed;", true)
  | 3 => ("StoneApologies", "now", "LStoneApologies$Quarry;", true)
  | 4 => ("StoneApologies", "trial", "LStoneApologies$Quarry;", true)
  | 5 => ("StoneApologies", "past", "LStoneApologies$Pile;", true)
  | 6 => ("StoneApologies", "kept", "LStoneApologies$Pile;", true)
  | 7 => ("StoneApologies", "rows", "LStoneApologies$Rows;", true)
  | _ => ("StoneApologies", "orders", "LStoneApologies$Orders;", true)
def tyX6 : Nat → FieldType := fun k => match k with
  | 0 => .object "StoneApologies$Text"
  | 1 => .object "StoneApologies$Bed"
  | 2 => .object "StoneApologies$Bed"
  | 3 => .object "StoneApologies$Quarry"
  | 4 => .object "StoneApologies$Quarry"
  | 5 => .object "StoneApologies$Pile"
  | 6 => .object "StoneApologies$Pile"
  | 7 => .object "StoneApologies$Rows"
  | _ => .object "StoneApologies$Orders"
abbrev wsX60 : List Cond := u_ws RX6 TX6 9
theorem nmX6 : ∀ a, a < 9 → ∀ b, b < 9 → a ≠ b → (TX6 a).2.1 ≠ (TX6 b).2.1 := by decide +kernel
theorem tyX6_ok : ∀ k, k < 9 → parseFieldDescriptor (TX6 k).2.2.1 = some (tyX6 k) := by decide +kernel
abbrev cX6_init : ByteArray := prog_1_method_1_code
def yX6_init : MethodName := ⟨RX6, "<init>", "()V"⟩
abbrev cX6_write : ByteArray := prog_1_method_2_code
def yX6_write : MethodName := ⟨RX6, "write", "(I)I"⟩
abbrev cX6_wipe : ByteArray := prog_1_method_3_code
def yX6_wipe : MethodName := ⟨RX6, "wipe", "()I"⟩
abbrev cX6_fault : ByteArray := prog_1_method_4_code
def yX6_fault : MethodName := ⟨RX6, "fault", "()I"⟩
abbrev cX6_lay : ByteArray := prog_1_method_5_code
def yX6_lay : MethodName := ⟨RX6, "lay", "()I"⟩
abbrev cX6_block : ByteArray := prog_1_method_6_code
def yX6_block : MethodName := ⟨RX6, "block", "(II)I"⟩
abbrev cX6_word : ByteArray := prog_1_method_7_code
def yX6_word : MethodName := ⟨RX6, "word", "(I)I"⟩
abbrev cX6_speaker : ByteArray := prog_1_method_8_code
def yX6_speaker : MethodName := ⟨RX6, "speaker", "(II)I"⟩
abbrev cX6_heard : ByteArray := prog_1_method_9_code
def yX6_heard : MethodName := ⟨RX6, "heard", "(II)I"⟩
abbrev cX6_promised : ByteArray := prog_1_method_10_code
def yX6_promised : MethodName := ⟨RX6, "promised", "(II)I"⟩
abbrev cX6_worth : ByteArray := prog_1_method_11_code
def yX6_worth : MethodName := ⟨RX6, "worth", "(III)I"⟩
abbrev cX6_say : ByteArray := prog_1_method_12_code
def yX6_say : MethodName := ⟨RX6, "say", "(III)I"⟩
abbrev cX6_promise : ByteArray := prog_1_method_13_code
def yX6_promise : MethodName := ⟨RX6, "promise", "(III)I"⟩
abbrev cX6_take : ByteArray := prog_1_method_14_code
def yX6_take : MethodName := ⟨RX6, "take", "(II)I"⟩
abbrev cX6_pass : ByteArray := prog_1_method_15_code
def yX6_pass : MethodName := ⟨RX6, "pass", "(I)I"⟩
abbrev cX6_undo : ByteArray := prog_1_method_16_code
def yX6_undo : MethodName := ⟨RX6, "undo", "()I"⟩
abbrev cX6_least : ByteArray := prog_1_method_17_code
def yX6_least : MethodName := ⟨RX6, "least", "(II)I"⟩
abbrev cX6_best : ByteArray := prog_1_method_18_code
def yX6_best : MethodName := ⟨RX6, "best", "(I)I"⟩
abbrev cX6_order : ByteArray := prog_1_method_19_code
def yX6_order : MethodName := ⟨RX6, "order", "(I)I"⟩
abbrev cX6_days : ByteArray := prog_1_method_20_code
def yX6_days : MethodName := ⟨RX6, "days", "(II)I"⟩
abbrev cX6_frost : ByteArray := prog_1_method_21_code
def yX6_frost : MethodName := ⟨RX6, "frost", "(I)I"⟩
abbrev cX6_uses : ByteArray := prog_1_method_22_code
def yX6_uses : MethodName := ⟨RX6, "uses", "(I)I"⟩
abbrev cX6_harm : ByteArray := prog_1_method_23_code
def yX6_harm : MethodName := ⟨RX6, "harm", "(I)I"⟩
abbrev cX6_liars : ByteArray := prog_1_method_24_code
def yX6_liars : MethodName := ⟨RX6, "liars", "()I"⟩
abbrev cX6_said : ByteArray := prog_1_method_25_code
def yX6_said : MethodName := ⟨RX6, "said", "(III)I"⟩
abbrev cX6_deaf : ByteArray := prog_1_method_26_code
def yX6_deaf : MethodName := ⟨RX6, "deaf", "(IIIIII)I"⟩
abbrev cX6_year : ByteArray := prog_1_method_27_code
def yX6_year : MethodName := ⟨RX6, "year", "(III)I"⟩
abbrev cX6_keep : ByteArray := prog_1_method_28_code
def yX6_keep : MethodName := ⟨RX6, "keep", "()I"⟩
abbrev cX6_back : ByteArray := prog_1_method_29_code
def yX6_back : MethodName := ⟨RX6, "back", "()I"⟩
abbrev cX6_count : ByteArray := prog_1_method_30_code
def yX6_count : MethodName := ⟨RX6, "count", "(I)I"⟩
abbrev cX6_layOut : ByteArray := prog_1_method_31_code
def yX6_layOut : MethodName := ⟨RX6, "layOut", "()V"⟩
abbrev cX6_isBlock : ByteArray := prog_1_method_32_code
def yX6_isBlock : MethodName := ⟨RX6, "isBlock", "(I)Z"⟩
abbrev cX6_isWord : ByteArray := prog_1_method_33_code
def yX6_isWord : MethodName := ⟨RX6, "isWord", "(I)Z"⟩
abbrev cX6_isSpeaker : ByteArray := prog_1_method_34_code
def yX6_isSpeaker : MethodName := ⟨RX6, "isSpeaker", "(I)Z"⟩
abbrev cX6_isSaying : ByteArray := prog_1_method_35_code
def yX6_isSaying : MethodName := ⟨RX6, "isSaying", "(III)Z"⟩
abbrev cX6_isUse : ByteArray := prog_1_method_36_code
def yX6_isUse : MethodName := ⟨RX6, "isUse", "(I)Z"⟩
abbrev cX6_isPart : ByteArray := prog_1_method_37_code
def yX6_isPart : MethodName := ⟨RX6, "isPart", "(I)Z"⟩
abbrev cX6_saying : ByteArray := prog_1_method_38_code
def yX6_saying : MethodName := ⟨RX6, "saying", "(II)I"⟩
abbrev cX6_weight : ByteArray := prog_1_method_39_code
def yX6_weight : MethodName := ⟨RX6, "weight", "(III)I"⟩
abbrev cX6_commonMeasure : ByteArray := prog_1_method_40_code
def yX6_commonMeasure : MethodName := ⟨RX6, "commonMeasure", "(II)I"⟩
abbrev cX6_drawOf : ByteArray := prog_1_method_41_code
def yX6_drawOf : MethodName := ⟨RX6, "drawOf", "(II)I"⟩
abbrev cX6_live : ByteArray := prog_1_method_42_code
def yX6_live : MethodName := ⟨RX6, "live", "(LStoneApologies$Quarry;I)V"⟩
abbrev cX6_at : ByteArray := prog_1_method_43_code
def yX6_at : MethodName := ⟨RX6, "at", "([II)I"⟩
abbrev cX6_put : ByteArray := prog_1_method_44_code
def yX6_put : MethodName := ⟨RX6, "put", "([III)V"⟩
abbrev cX6_fill : ByteArray := prog_1_method_45_code
def yX6_fill : MethodName := ⟨RX6, "fill", "([II)V"⟩
abbrev cX6_copy : ByteArray := prog_1_method_46_code
def yX6_copy : MethodName := ⟨RX6, "copy", "([I[I)V"⟩
abbrev cX6_pick : ByteArray := prog_1_method_47_code
def yX6_pick : MethodName := ⟨RX6, "pick", "([LStoneApologies$Quarry;I)LStoneApologies$Quarry;"⟩
def RX7 : String := "StoneApologiesModel"
def TX7 : u_T := fun k => match k with
  | 0 => ("StoneApologiesModel", "w", "[I", true)
  | 1 => ("StoneApologiesModel", "undoes", "I", false)
  | 2 => ("StoneApologiesModel", "kept", "I", false)
  | 3 => ("StoneApologiesModel", "blocks", "I", false)
  | 4 => ("StoneApologiesModel", "kind", "[I", true)
  | 5 => ("StoneApologiesModel", "needs", "[I", true)
  | 6 => ("StoneApologiesModel", "words", "I", false)
  | 7 => ("StoneApologiesModel", "told", "[I", true)
  | 8 => ("StoneApologiesModel", "speakers", "I", false)
  | 9 => ("StoneApologiesModel", "speaks", "[I", true)
  | 10 => ("StoneApologiesModel", "daily", "[I", true)
  | 11 => ("StoneApologiesModel", "cold", "I", false)
  | 12 => ("StoneApologiesModel", "text", "[I", true)
  | 13 => ("StoneApologiesModel", "texted", "I", false)
  | 14 => ("StoneApologiesModel", "place", "I", false)
  | 15 => ("StoneApologiesModel", "number", "I", false)
  | 16 => ("StoneApologiesModel", "readBlocks", "I", false)
  | 17 => ("StoneApologiesModel", "readBlock", "[I", true)
  | 18 => ("StoneApologiesModel", "readWords", "I", false)
  | 19 => ("StoneApologiesModel", "readWord", "[I", true)
  | 20 => ("StoneApologiesModel", "readSpeakers", "I", false)
  | 21 => ("StoneApologiesModel", "readSpeaker", "[I", true)
  | 22 => ("StoneApologiesModel", "readCold", "I", false)
  | 23 => ("StoneApologiesModel", "readPromised", "[I", true)
  | 24 => ("StoneApologiesModel", "tried", "[I", true)
  | 25 => ("StoneApologiesModel", "softBy", "[I", true)
  | 26 => ("StoneApologiesModel", "timesSaid", "[I", true)
  | 27 => ("StoneApologiesModel", "hoursSpoken", "[I", true)
  | 28 => ("StoneApologiesModel", "asked", "[I", true)
  | _ => ("StoneApologiesModel", "bestAsked", "[I", true)
def tyX7 : Nat → FieldType := fun k => match k with
  | 0 => .array .int
  | 1 => .int
  | 2 => .int
  | 3 => .int
  | 4 => .array .int
  | 5 => .array .int
  | 6 => .int
  | 7 => .array .int
  | 8 => .int
  | 9 => .array .int
  | 10 => .array .int
  | 11 => .int
  | 12 => .array .int
  | 13 => .int
  | 14 => .int
  | 15 => .int
  | 16 => .int
  | 17 => .array .int
  | 18 => .int
  | 19 => .array .int
  | 20 => .int
  | 21 => .array .int
  | 22 => .int
  | 23 => .array .int
  | 24 => .array .int
  | 25 => .array .int
  | 26 => .array .int
  | 27 => .array .int
  | 28 => .array .int
  | _ => .array .int
abbrev wsX70 : List Cond := u_ws RX7 TX7 30
theorem nmX7 : ∀ a, a < 30 → ∀ b, b < 30 → a ≠ b → (TX7 a).2.1 ≠ (TX7 b).2.1 := by decide +kernel
theorem tyX7_ok : ∀ k, k < 30 → parseFieldDescriptor (TX7 k).2.2.1 = some (tyX7 k) := by decide +kernel
abbrev cX7_init : ByteArray := prog_9_method_1_code
def yX7_init : MethodName := ⟨RX7, "<init>", "()V"⟩
abbrev cX7_in : ByteArray := prog_9_method_3_code
def yX7_in : MethodName := ⟨RX7, "in", "(JJJ)Z"⟩
abbrev cX7_has : ByteArray := prog_9_method_4_code
def yX7_has : MethodName := ⟨RX7, "has", "(II)Z"⟩
abbrev cX7_ones : ByteArray := prog_9_method_5_code
def yX7_ones : MethodName := ⟨RX7, "ones", "(I)I"⟩
abbrev cX7_copy : ByteArray := prog_9_method_6_code
def yX7_copy : MethodName := ⟨RX7, "copy", "(II)V"⟩
abbrev cX7_isBlock : ByteArray := prog_9_method_7_code
def yX7_isBlock : MethodName := ⟨RX7, "isBlock", "(I)Z"⟩
abbrev cX7_isWord : ByteArray := prog_9_method_8_code
def yX7_isWord : MethodName := ⟨RX7, "isWord", "(I)Z"⟩
abbrev cX7_isSpeaker : ByteArray := prog_9_method_9_code
def yX7_isSpeaker : MethodName := ⟨RX7, "isSpeaker", "(I)Z"⟩
abbrev cX7_starts : ByteArray := prog_9_method_10_code
def yX7_starts : MethodName := ⟨RX7, "starts", "()V"⟩
abbrev cX7_addsBlock : ByteArray := prog_9_method_11_code
def yX7_addsBlock : MethodName := ⟨RX7, "addsBlock", "(II)V"⟩
abbrev cX7_addsWord : ByteArray := prog_9_method_12_code
def yX7_addsWord : MethodName := ⟨RX7, "addsWord", "(I)V"⟩
abbrev cX7_addsSpeaker : ByteArray := prog_9_method_13_code
def yX7_addsSpeaker : MethodName := ⟨RX7, "addsSpeaker", "(II)V"⟩
abbrev cX7_begins : ByteArray := prog_9_method_14_code
def yX7_begins : MethodName := ⟨RX7, "begins", "()V"⟩
abbrev cX7_write : ByteArray := prog_9_method_15_code
def yX7_write : MethodName := ⟨RX7, "write", "(I)I"⟩
abbrev cX7_wipe : ByteArray := prog_9_method_16_code
def yX7_wipe : MethodName := ⟨RX7, "wipe", "()I"⟩
abbrev cX7_letterAt : ByteArray := prog_9_method_17_code
def yX7_letterAt : MethodName := ⟨RX7, "letterAt", "(I)I"⟩
abbrev cX7_takesNumber : ByteArray := prog_9_method_18_code
def yX7_takesNumber : MethodName := ⟨RX7, "takesNumber", "(III)Z"⟩
abbrev cX7_takesBlock : ByteArray := prog_9_method_19_code
def yX7_takesBlock : MethodName := ⟨RX7, "takesBlock", "()Z"⟩
abbrev cX7_takesWord : ByteArray := prog_9_method_20_code
def yX7_takesWord : MethodName := ⟨RX7, "takesWord", "()Z"⟩
abbrev cX7_takesSpeaker : ByteArray := prog_9_method_21_code
def yX7_takesSpeaker : MethodName := ⟨RX7, "takesSpeaker", "()Z"⟩
abbrev cX7_takesFrost : ByteArray := prog_9_method_22_code
def yX7_takesFrost : MethodName := ⟨RX7, "takesFrost", "()Z"⟩
abbrev cX7_takesPromise : ByteArray := prog_9_method_23_code
def yX7_takesPromise : MethodName := ⟨RX7, "takesPromise", "()Z"⟩
abbrev cX7_takesItem : ByteArray := prog_9_method_24_code
def yX7_takesItem : MethodName := ⟨RX7, "takesItem", "()Z"⟩
abbrev cX7_faultOf : ByteArray := prog_9_method_25_code
def yX7_faultOf : MethodName := ⟨RX7, "faultOf", "()I"⟩
abbrev cX7_fault : ByteArray := prog_9_method_26_code
def yX7_fault : MethodName := ⟨RX7, "fault", "()I"⟩
abbrev cX7_lay : ByteArray := prog_9_method_27_code
def yX7_lay : MethodName := ⟨RX7, "lay", "()I"⟩
abbrev cX7_block : ByteArray := prog_9_method_28_code
def yX7_block : MethodName := ⟨RX7, "block", "(II)I"⟩
abbrev cX7_word : ByteArray := prog_9_method_29_code
def yX7_word : MethodName := ⟨RX7, "word", "(I)I"⟩
abbrev cX7_speaker : ByteArray := prog_9_method_30_code
def yX7_speaker : MethodName := ⟨RX7, "speaker", "(II)I"⟩
abbrev cX7_heard : ByteArray := prog_9_method_31_code
def yX7_heard : MethodName := ⟨RX7, "heard", "(II)I"⟩
abbrev cX7_promised : ByteArray := prog_9_method_32_code
def yX7_promised : MethodName := ⟨RX7, "promised", "(II)I"⟩
abbrev cX7_byKind : ByteArray := prog_9_method_33_code
def yX7_byKind : MethodName := ⟨RX7, "byKind", "(II)I"⟩
abbrev cX7_less : ByteArray := prog_9_method_34_code
def yX7_less : MethodName := ⟨RX7, "less", "(II)I"⟩
abbrev cX7_heardOf : ByteArray := prog_9_method_35_code
def yX7_heardOf : MethodName := ⟨RX7, "heardOf", "(III)I"⟩
abbrev cX7_spoken : ByteArray := prog_9_method_36_code
def yX7_spoken : MethodName := ⟨RX7, "spoken", "(III)I"⟩
abbrev cX7_worthOf : ByteArray := prog_9_method_37_code
def yX7_worthOf : MethodName := ⟨RX7, "worthOf", "(IIII)I"⟩
abbrev cX7_worth : ByteArray := prog_9_method_38_code
def yX7_worth : MethodName := ⟨RX7, "worth", "(III)I"⟩
abbrev cX7_inBed : ByteArray := prog_9_method_39_code
def yX7_inBed : MethodName := ⟨RX7, "inBed", "(II)Z"⟩
abbrev cX7_hears : ByteArray := prog_9_method_40_code
def yX7_hears : MethodName := ⟨RX7, "hears", "(III)Z"⟩
abbrev cX7_comes : ByteArray := prog_9_method_41_code
def yX7_comes : MethodName := ⟨RX7, "comes", "(II)V"⟩
abbrev cX7_says : ByteArray := prog_9_method_42_code
def yX7_says : MethodName := ⟨RX7, "says", "(IIII)V"⟩
abbrev cX7_passes : ByteArray := prog_9_method_43_code
def yX7_passes : MethodName := ⟨RX7, "passes", "(I)V"⟩
abbrev cX7_canSay : ByteArray := prog_9_method_44_code
def yX7_canSay : MethodName := ⟨RX7, "canSay", "(III)Z"⟩
abbrev cX7_isElse : ByteArray := prog_9_method_45_code
def yX7_isElse : MethodName := ⟨RX7, "isElse", "(III)Z"⟩
abbrev cX7_takesFor : ByteArray := prog_9_method_46_code
def yX7_takesFor : MethodName := ⟨RX7, "takesFor", "(III)V"⟩
abbrev cX7_minds : ByteArray := prog_9_method_47_code
def yX7_minds : MethodName := ⟨RX7, "minds", "()V"⟩
abbrev cX7_say : ByteArray := prog_9_method_48_code
def yX7_say : MethodName := ⟨RX7, "say", "(III)I"⟩
abbrev cX7_promise : ByteArray := prog_9_method_49_code
def yX7_promise : MethodName := ⟨RX7, "promise", "(III)I"⟩
abbrev cX7_take : ByteArray := prog_9_method_50_code
def yX7_take : MethodName := ⟨RX7, "take", "(II)I"⟩
abbrev cX7_pass : ByteArray := prog_9_method_51_code
def yX7_pass : MethodName := ⟨RX7, "pass", "(I)I"⟩
abbrev cX7_undo : ByteArray := prog_9_method_52_code
def yX7_undo : MethodName := ⟨RX7, "undo", "()I"⟩
abbrev cX7_tries : ByteArray := prog_9_method_53_code
def yX7_tries : MethodName := ⟨RX7, "tries", "()V"⟩
abbrev cX7_bringsOut : ByteArray := prog_9_method_54_code
def yX7_bringsOut : MethodName := ⟨RX7, "bringsOut", "(II)Z"⟩
abbrev cX7_least : ByteArray := prog_9_method_55_code
def yX7_least : MethodName := ⟨RX7, "least", "(II)I"⟩
abbrev cX7_bestOf : ByteArray := prog_9_method_56_code
def yX7_bestOf : MethodName := ⟨RX7, "bestOf", "(II)I"⟩
abbrev cX7_best : ByteArray := prog_9_method_57_code
def yX7_best : MethodName := ⟨RX7, "best", "(I)I"⟩
abbrev cX7_asks : ByteArray := prog_9_method_58_code
def yX7_asks : MethodName := ⟨RX7, "asks", "(II)V"⟩
abbrev cX7_bedOf : ByteArray := prog_9_method_59_code
def yX7_bedOf : MethodName := ⟨RX7, "bedOf", "()I"⟩
abbrev cX7_bestOrder : ByteArray := prog_9_method_60_code
def yX7_bestOrder : MethodName := ⟨RX7, "bestOrder", "()I"⟩
abbrev cX7_order : ByteArray := prog_9_method_61_code
def yX7_order : MethodName := ⟨RX7, "order", "(I)I"⟩
abbrev cX7_bestWord : ByteArray := prog_9_method_62_code
def yX7_bestWord : MethodName := ⟨RX7, "bestWord", "(II)I"⟩
abbrev cX7_days : ByteArray := prog_9_method_63_code
def yX7_days : MethodName := ⟨RX7, "days", "(II)I"⟩
abbrev cX7_frost : ByteArray := prog_9_method_64_code
def yX7_frost : MethodName := ⟨RX7, "frost", "(I)I"⟩
abbrev cX7_uses : ByteArray := prog_9_method_65_code
def yX7_uses : MethodName := ⟨RX7, "uses", "(I)I"⟩
abbrev cX7_harmOf : ByteArray := prog_9_method_66_code
def yX7_harmOf : MethodName := ⟨RX7, "harmOf", "(II)I"⟩
abbrev cX7_harm : ByteArray := prog_9_method_67_code
def yX7_harm : MethodName := ⟨RX7, "harm", "(I)I"⟩
abbrev cX7_lies : ByteArray := prog_9_method_68_code
def yX7_lies : MethodName := ⟨RX7, "lies", "(II)Z"⟩
abbrev cX7_liars : ByteArray := prog_9_method_69_code
def yX7_liars : MethodName := ⟨RX7, "liars", "()I"⟩
abbrev cX7_said : ByteArray := prog_9_method_70_code
def yX7_said : MethodName := ⟨RX7, "said", "(III)I"⟩
abbrev cX7_deaf : ByteArray := prog_9_method_71_code
def yX7_deaf : MethodName := ⟨RX7, "deaf", "(IIIIII)I"⟩
abbrev cX7_manyHow : ByteArray := prog_9_method_72_code
def yX7_manyHow : MethodName := ⟨RX7, "manyHow", "(II)I"⟩
abbrev cX7_doesBy : ByteArray := prog_9_method_73_code
def yX7_doesBy : MethodName := ⟨RX7, "doesBy", "(I)V"⟩
abbrev cX7_year : ByteArray := prog_9_method_74_code
def yX7_year : MethodName := ⟨RX7, "year", "(III)I"⟩
abbrev cX7_keep : ByteArray := prog_9_method_75_code
def yX7_keep : MethodName := ⟨RX7, "keep", "()I"⟩
abbrev cX7_back : ByteArray := prog_9_method_76_code
def yX7_back : MethodName := ⟨RX7, "back", "()I"⟩
abbrev cX7_count : ByteArray := prog_9_method_77_code
def yX7_count : MethodName := ⟨RX7, "count", "(I)I"⟩
def RJ6 : String := "java/lang/Integer"
def TJ6 : u_T := fun k => match k with
  | _ => ("", "", "", false)
def tyJ6 : Nat → FieldType := fun k => match k with
  | _ => .int
abbrev wsJ60 : List Cond := u_ws RJ6 TJ6 0
theorem nmJ6 : ∀ a, a < 0 → ∀ b, b < 0 → a ≠ b → (TJ6 a).2.1 ≠ (TJ6 b).2.1 := by decide +kernel
theorem tyJ6_ok : ∀ k, k < 0 → parseFieldDescriptor (TJ6 k).2.2.1 = some (tyJ6 k) := by decide +kernel
abbrev cJ6_bitCount_0f7a4 : ByteArray := prog_10_method_49_code
def yJ6_bitCount_0f7a4 : MethodName := ⟨RJ6, "bitCount", "(I)I"⟩
def RJ9 : String := "java/lang/Math"
def TJ9 : u_T := fun k => match k with
  | _ => ("", "", "", false)
def tyJ9 : Nat → FieldType := fun k => match k with
  | _ => .int
abbrev wsJ90 : List Cond := u_ws RJ9 TJ9 0
theorem nmJ9 : ∀ a, a < 0 → ∀ b, b < 0 → a ≠ b → (TJ9 a).2.1 ≠ (TJ9 b).2.1 := by decide +kernel
theorem tyJ9_ok : ∀ k, k < 0 → parseFieldDescriptor (TJ9 k).2.2.1 = some (tyJ9 k) := by decide +kernel
abbrev cJ9_max_7cf53 : ByteArray := prog_11_method_65_code
def yJ9_max_7cf53 : MethodName := ⟨RJ9, "max", "(II)I"⟩
def RJ0 : String := "java/lang/String"
def TJ0 : u_T := fun k => match k with
  | _ => ("", "", "", false)
def tyJ0 : Nat → FieldType := fun k => match k with
  | _ => .int
abbrev wsJ00 : List Cond := u_ws RJ0 TJ0 0
theorem nmJ0 : ∀ a, a < 0 → ∀ b, b < 0 → a ≠ b → (TJ0 a).2.1 ≠ (TJ0 b).2.1 := by decide +kernel
theorem tyJ0_ok : ∀ k, k < 0 → parseFieldDescriptor (TJ0 k).2.2.1 = some (tyJ0 k) := by decide +kernel
abbrev cJ0_length_8abf5 : ByteArray := prog_12_method_54_code
def yJ0_length_8abf5 : MethodName := ⟨RJ0, "length", "()I"⟩
abbrev cJ0_charAt_5068e : ByteArray := prog_12_method_56_code
def yJ0_charAt_5068e : MethodName := ⟨RJ0, "charAt", "(I)C"⟩
abbrev cJ0_coder_7d493 : ByteArray := prog_12_method_152_code
def yJ0_coder_7d493 : MethodName := ⟨RJ0, "coder", "()B"⟩
abbrev cJ0_isLatin1_aae02 : ByteArray := prog_12_method_154_code
def yJ0_isLatin1_aae02 : MethodName := ⟨RJ0, "isLatin1", "()Z"⟩
abbrev cJ0_checkIndex_df160 : ByteArray := prog_12_method_155_code
def yJ0_checkIndex_df160 : MethodName := ⟨RJ0, "checkIndex", "(II)V"⟩
def RJ1 : String := "java/lang/StringLatin1"
def TJ1 : u_T := fun k => match k with
  | _ => ("", "", "", false)
def tyJ1 : Nat → FieldType := fun k => match k with
  | _ => .int
abbrev wsJ10 : List Cond := u_ws RJ1 TJ1 0
theorem nmJ1 : ∀ a, a < 0 → ∀ b, b < 0 → a ≠ b → (TJ1 a).2.1 ≠ (TJ1 b).2.1 := by decide +kernel
theorem tyJ1_ok : ∀ k, k < 0 → parseFieldDescriptor (TJ1 k).2.2.1 = some (tyJ1 k) := by decide +kernel
abbrev cJ1_charAt_3b067 : ByteArray := prog_13_method_2_code
def yJ1_charAt_3b067 : MethodName := ⟨RJ1, "charAt", "([BI)C"⟩
def RJ2 : String := "java/lang/StringUTF16"
def TJ2 : u_T := fun k => match k with
  | _ => ("", "", "", false)
def tyJ2 : Nat → FieldType := fun k => match k with
  | _ => .int
abbrev wsJ20 : List Cond := u_ws RJ2 TJ2 0
theorem nmJ2 : ∀ a, a < 0 → ∀ b, b < 0 → a ≠ b → (TJ2 a).2.1 ≠ (TJ2 b).2.1 := by decide +kernel
theorem tyJ2_ok : ∀ k, k < 0 → parseFieldDescriptor (TJ2 k).2.2.1 = some (tyJ2 k) := by decide +kernel
abbrev cJ2_getChar_3b067 : ByteArray := prog_14_method_5_code
def yJ2_getChar_3b067 : MethodName := ⟨RJ2, "getChar", "([BI)C"⟩
abbrev cJ2_length_9d52b : ByteArray := prog_14_method_6_code
def yJ2_length_9d52b : MethodName := ⟨RJ2, "length", "([B)I"⟩
abbrev cJ2_charAt_3b067 : ByteArray := prog_14_method_83_code
def yJ2_charAt_3b067 : MethodName := ⟨RJ2, "charAt", "([BI)C"⟩
abbrev cJ2_checkIndex_2214a : ByteArray := prog_14_method_91_code
def yJ2_checkIndex_2214a : MethodName := ⟨RJ2, "checkIndex", "(I[B)V"⟩
def RJ3 : String := "jdk/internal/util/Preconditions"
def TJ3 : u_T := fun k => match k with
  | _ => ("", "", "", false)
def tyJ3 : Nat → FieldType := fun k => match k with
  | _ => .int
abbrev wsJ30 : List Cond := u_ws RJ3 TJ3 0
theorem nmJ3 : ∀ a, a < 0 → ∀ b, b < 0 → a ≠ b → (TJ3 a).2.1 ≠ (TJ3 b).2.1 := by decide +kernel
theorem tyJ3_ok : ∀ k, k < 0 → parseFieldDescriptor (TJ3 k).2.2.1 = some (tyJ3 k) := by decide +kernel
abbrev cJ3_checkIndex_8e157 : ByteArray := prog_15_method_11_code
def yJ3_checkIndex_8e157 : MethodName := ⟨RJ3, "checkIndex", "(IILjava/util/function/BiFunction;)I"⟩
def RL : String := "StoneApologiesLaw"
abbrev cL_law : ByteArray := code
def yL_law : MethodName := ⟨RL, "law", "([I)Z"⟩
abbrev vwCl : List vw_C := [(RX0, TX0, 12), (RX1, TX1, 5), (RX2, TX2, 3), (RX3, TX3, 8), (RX4, TX4, 2), (RX5, TX5, 4), (RX6, TX6, 9), (RX7, TX7, 30)]
end
section
/-! THE LITTLE MACHINE: values are numbers or typed places (kind, place); a heap is a map place -> index -> Int32; refs in cells are fixed by the shape. A table gives each instruction as a function to one of four forms: go, branch, return, call. -/
abbrev QV : Type := Int32 ⊕ (Int64 ⊕ (Nat × Nat))
abbrev QL : Type := List (Nat × QV)
abbrev QH : Type := Nat → Nat → Int32
abbrev QS : Type := Nat × (QL × (List QV × QH))
abbrev QR : Type := Option QV × QH
abbrev QE : Type := Nat × (List QV × QH)
abbrev QC : Type := (QH → QS) ⊕ ((Int32 → QH → QS) ⊕ ((QH → QS) × (Nat → QH → QS)))
abbrev QW : Type := Int32 × (List (Int32 × QS) × QS)
abbrev QN : Type := Option ((Bool × QS) ⊕ ((Bool × (QS × QS)) ⊕ ((Bool × QR) ⊕ ((Bool × (QE × QC)) ⊕ QW))))
abbrev QO : Type := QL → List QV → QH → QN
abbrev QT : Type := Nat → Nat → Option QO
abbrev QK : Type := Nat → Nat → Option (List Nat)
def q_big : QV → Bool
  | .inr (.inl _) => true
  | _ => false
def q_la : Nat → List QV → QL
  | _, [] => []
  | i, v :: vs => (i, v) :: q_la (cond (q_big v) (i + 2) (i + 1)) vs
def q_lk : QL → Nat → Option QV
  | [], _ => none
  | (j, v) :: l, i => cond (Nat.beq j i) (some v) (q_lk l i)
def q_mem (i : Nat) : List Nat → Bool
  | [] => false
  | j :: l => cond (Nat.beq j i) true (q_mem i l)
def q_kp (ks : List Nat) : QL → QL
  | [] => []
  | (j, v) :: l => cond (q_mem j ks) ((j, v) :: q_kp ks l) (q_kp ks l)
def q_rm (i : Nat) : QL → QL
  | [] => []
  | (j, v) :: l => cond (Nat.beq j i) (q_rm i l) (cond (cond (Nat.beq (j + 1) i) (q_big v) false) (q_rm i l) ((j, v) :: q_rm i l))
def q_in (i : Nat) (v : QV) : QL → QL
  | [] => [(i, v)]
  | (j, w) :: l => cond (Nat.ble i j) ((i, v) :: (j, w) :: l) ((j, w) :: q_in i v l)
def q_st (i : Nat) (v : QV) (l : QL) : QL := q_in i v (q_rm i l)
def q_st2 (i : Nat) (v : QV) (l : QL) : QL := q_in i v (q_rm (i + 1) (q_rm i l))
def q_cV (r : Option QR) (k : QH → Option QR) : Option QR := match r with
  | some (none, H) => k H
  | _ => none
def q_cI (r : Option QR) (k : Int32 → QH → Option QR) : Option QR := match r with
  | some (some (.inl x), H) => k x H
  | _ => none
def q_cR (r : Option QR) (k0 : QH → Option QR) (k5 : Nat → QH → Option QR) : Option QR := match r with
  | some (some (.inr (.inr (0, _))), H) => k0 H
  | some (some (.inr (.inr (5, p))), H) => k5 p H
  | _ => none
def q_pick (x : Int32) (d : QS) : List (Int32 × QS) → QS
  | [] => d
  | (k, t) :: l => if x = k then t else q_pick x d l
def q_sw (K : QS → Option QR) (x : Int32) (d : QS) : List (Int32 × QS) → Option QR
  | [] => K d
  | (k, t) :: l => cond (decide (x = k)) (K t) (q_sw K x d l)
theorem q_sw_eq (K : QS → Option QR) (x : Int32) (d : QS) (l : List (Int32 × QS)) : q_sw K x d l = K (q_pick x d l) := by
  induction l with
  | nil => rfl
  | cons q l ih =>
    obtain ⟨k, t⟩ := q
    unfold q_sw q_pick
    by_cases h : x = k
    · simp [h]
    · simp [h, ih]
def q_run (Kc : QE → Option QR) (K : QS → Option QR) : QN → Option QR
  | none => none
  | some (.inl (b, t)) => cond b (K t) none
  | some (.inr (.inl (b, (t, u)))) => cond b (K t) (K u)
  | some (.inr (.inr (.inl (b, r)))) => cond b (some r) none
  | some (.inr (.inr (.inr (.inl (b, (e, .inl f)))))) => cond b (q_cV (Kc e) (fun H => K (f H))) none
  | some (.inr (.inr (.inr (.inl (b, (e, .inr (.inl f))))))) => cond b (q_cI (Kc e) (fun x H => K (f x H))) none
  | some (.inr (.inr (.inr (.inl (b, (e, .inr (.inr (f, g)))))))) => cond b (q_cR (Kc e) (fun H => K (f H)) (fun p H => K (g p H))) none
  | some (.inr (.inr (.inr (.inr (x, (l, d)))))) => q_sw K x d l
theorem q_cV_some {r : Option QR} {k : QH → Option QR} {z : QR} (h : q_cV r k = some z) : ∃ H, r = some (none, H) ∧ k H = some z := by
  unfold q_cV at h
  split at h
  · exact ⟨_, rfl, h⟩
  · cases h
theorem q_cI_some {r : Option QR} {k : Int32 → QH → Option QR} {z : QR} (h : q_cI r k = some z) : ∃ x H, r = some (some (.inl x), H) ∧ k x H = some z := by
  unfold q_cI at h
  split at h
  · exact ⟨_, _, rfl, h⟩
  · cases h
theorem q_cR_some {r : Option QR} {k0 : QH → Option QR} {k5 : Nat → QH → Option QR} {z : QR} (h : q_cR r k0 k5 = some z) : (∃ y H, r = some (some (.inr (.inr (0, y))), H) ∧ k0 H = some z) ∨ (∃ p H, r = some (some (.inr (.inr (5, p))), H) ∧ k5 p H = some z) := by
  unfold q_cR at h
  split at h
  · exact Or.inl ⟨_, _, rfl, h⟩
  · exact Or.inr ⟨_, _, rfl, h⟩
  · cases h
theorem q_cond {b : Bool} {x : Option QR} {z : QR} (h : cond b x none = some z) : b = true ∧ x = some z := by
  cases b
  · cases h
  · exact ⟨rfl, h⟩
/-- what a run used is used at finitely many places: it is kept when the two maps grow -/
theorem q_run_mono {Kc Kc' : QE → Option QR} {K K' : QS → Option QR} (hc : ∀ e r, Kc e = some r → Kc' e = some r) (hk : ∀ t r, K t = some r → K' t = some r) : ∀ (N : QN) (r : QR), q_run Kc K N = some r → q_run Kc' K' N = some r
  | none, r, h => by cases h
  | some (.inl (b, t)), r, h => by
    obtain ⟨rfl, h2⟩ := q_cond h
    exact hk _ _ h2
  | some (.inr (.inl (b, (t, u)))), r, h => by
    cases b
    · exact hk u r h
    · exact hk t r h
  | some (.inr (.inr (.inl (b, z)))), r, h => h
  | some (.inr (.inr (.inr (.inl (b, (e, .inl f)))))), r, h => by
    obtain ⟨rfl, h2⟩ := q_cond h
    obtain ⟨H, h3, h4⟩ := q_cV_some h2
    show q_cV (Kc' e) _ = some r
    rw [hc _ _ h3]
    exact hk _ _ h4
  | some (.inr (.inr (.inr (.inl (b, (e, .inr (.inl f))))))), r, h => by
    obtain ⟨rfl, h2⟩ := q_cond h
    obtain ⟨x, H, h3, h4⟩ := q_cI_some h2
    show q_cI (Kc' e) _ = some r
    rw [hc _ _ h3]
    exact hk _ _ h4
  | some (.inr (.inr (.inr (.inl (b, (e, .inr (.inr (f, g)))))))), r, h => by
    obtain ⟨rfl, h2⟩ := q_cond h
    show q_cR (Kc' e) _ _ = some r
    rcases q_cR_some h2 with ⟨y, H, h3, h4⟩ | ⟨y, H, h3, h4⟩
    · rw [hc _ _ h3]; exact hk _ _ h4
    · rw [hc _ _ h3]; exact hk _ _ h4
  | some (.inr (.inr (.inr (.inr (x, (l, d)))))), r, h => by
    have h : q_sw K x d l = some r := h
    show q_sw K' x d l = some r
    rw [q_sw_eq] at h ⊢
    exact hk _ _ h
theorem q_run_cont {Kc : Nat → QE → Option QR} {K : Nat → QS → Option QR} {Lc : QE → Option QR} {L : QS → Option QR} (mc : ∀ i j e r, i ≤ j → Kc i e = some r → Kc j e = some r) (mk : ∀ i j t r, i ≤ j → K i t = some r → K j t = some r) (hc : ∀ e r, Lc e = some r → ∃ n, Kc n e = some r) (hk : ∀ t r, L t = some r → ∃ n, K n t = some r) : ∀ (N : QN) (r : QR), q_run Lc L N = some r → ∃ n, q_run (Kc n) (K n) N = some r
  | none, r, h => by cases h
  | some (.inl (b, t)), r, h => by
    obtain ⟨rfl, h2⟩ := q_cond h
    exact hk _ _ h2
  | some (.inr (.inl (b, (t, u)))), r, h => by
    cases b
    · exact hk u r h
    · exact hk t r h
  | some (.inr (.inr (.inl (b, z)))), r, h => ⟨0, h⟩
  | some (.inr (.inr (.inr (.inl (b, (e, .inl f)))))), r, h => by
    obtain ⟨rfl, h2⟩ := q_cond h
    obtain ⟨H, h3, h4⟩ := q_cV_some h2
    obtain ⟨n1, e1⟩ := hc _ _ h3
    obtain ⟨n2, e2⟩ := hk _ _ h4
    refine ⟨max n1 n2, ?_⟩
    show q_cV (Kc (max n1 n2) e) _ = some r
    rw [mc _ _ _ _ (Nat.le_max_left n1 n2) e1]
    exact mk _ _ _ _ (Nat.le_max_right n1 n2) e2
  | some (.inr (.inr (.inr (.inl (b, (e, .inr (.inl f))))))), r, h => by
    obtain ⟨rfl, h2⟩ := q_cond h
    obtain ⟨x, H, h3, h4⟩ := q_cI_some h2
    obtain ⟨n1, e1⟩ := hc _ _ h3
    obtain ⟨n2, e2⟩ := hk _ _ h4
    refine ⟨max n1 n2, ?_⟩
    show q_cI (Kc (max n1 n2) e) _ = some r
    rw [mc _ _ _ _ (Nat.le_max_left n1 n2) e1]
    exact mk _ _ _ _ (Nat.le_max_right n1 n2) e2
  | some (.inr (.inr (.inr (.inl (b, (e, .inr (.inr (f, g)))))))), r, h => by
    obtain ⟨rfl, h2⟩ := q_cond h
    rcases q_cR_some h2 with ⟨y, H, h3, h4⟩ | ⟨y, H, h3, h4⟩
    · obtain ⟨n1, e1⟩ := hc _ _ h3
      obtain ⟨n2, e2⟩ := hk _ _ h4
      refine ⟨max n1 n2, ?_⟩
      show q_cR (Kc (max n1 n2) e) _ _ = some r
      rw [mc _ _ _ _ (Nat.le_max_left n1 n2) e1]
      exact mk _ _ _ _ (Nat.le_max_right n1 n2) e2
    · obtain ⟨n1, e1⟩ := hc _ _ h3
      obtain ⟨n2, e2⟩ := hk _ _ h4
      refine ⟨max n1 n2, ?_⟩
      show q_cR (Kc (max n1 n2) e) _ _ = some r
      rw [mc _ _ _ _ (Nat.le_max_left n1 n2) e1]
      exact mk _ _ _ _ (Nat.le_max_right n1 n2) e2
  | some (.inr (.inr (.inr (.inr (x, (l, d)))))), r, h => by
    have h : q_sw L x d l = some r := h
    rw [q_sw_eq] at h
    obtain ⟨n, hn⟩ := hk _ _ h
    exact ⟨n, by show q_sw (K n) x d l = some r; rw [q_sw_eq]; exact hn⟩
def q_cut (kp : QK) (mid : Nat) (t : QS) : QS := match kp mid t.1 with
  | some ks => (t.1, (q_kp ks t.2.1, t.2.2))
  | none => t
def q_step (tb : QT) (Kc : QE → Option QR) (K : QS → Option QR) (mid : Nat) (t : QS) : Option QR := match tb mid t.1 with
  | some o => q_run Kc K (o t.2.1 t.2.2.1 t.2.2.2)
  | none => none
def q_ev (tb : QT) (kp : QK) : Nat → Nat → Nat → QS → Option QR
  | 0, _, _, _ => none
  | _ + 1, 0, _, _ => none
  | n + 1, d + 1, mid, t => q_step tb (fun e => q_ev tb kp n d e.1 (0, (q_la 0 e.2.1, ([], e.2.2)))) (fun u => q_ev tb kp n (d + 1) mid (q_cut kp mid u)) mid t
theorem q_step_mono {tb : QT} {Kc Kc' : QE → Option QR} {K K' : QS → Option QR} {mid : Nat} {t : QS} {r : QR} (hc : ∀ e r, Kc e = some r → Kc' e = some r) (hk : ∀ t r, K t = some r → K' t = some r) (h : q_step tb Kc K mid t = some r) : q_step tb Kc' K' mid t = some r := by
  unfold q_step at h ⊢
  split at h
  · rename_i o ho
    exact q_run_mono hc hk _ _ h
  · cases h
theorem q_ev_succ (tb : QT) (kp : QK) : ∀ (n d mid : Nat) (t : QS) (r : QR), q_ev tb kp n d mid t = some r → q_ev tb kp (n + 1) d mid t = some r := by
  intro n
  induction n with
  | zero => intro d mid t r h; cases h
  | succ n ih =>
    intro d mid t r h
    cases d with
    | zero => cases h
    | succ d =>
      show q_step tb _ _ mid t = some r
      exact q_step_mono (fun e r h => ih _ _ _ _ h) (fun t r h => ih _ _ _ _ h) h
theorem q_ev_le (tb : QT) (kp : QK) {i j d mid : Nat} {t : QS} {r : QR} (hij : i ≤ j) (h : q_ev tb kp i d mid t = some r) : q_ev tb kp j d mid t = some r := by
  induction hij with
  | refl => exact h
  | step _ ih => exact q_ev_succ tb kp _ _ _ _ _ ih
noncomputable def q_EV (tb : QT) (kp : QK) (d mid : Nat) (t : QS) : Option QR := by
  classical
  exact if h : ∃ r n, q_ev tb kp n d mid t = some r then some (Classical.choose h) else none
theorem q_EV_iff (tb : QT) (kp : QK) (d mid : Nat) (t : QS) (r : QR) : q_EV tb kp d mid t = some r ↔ ∃ n, q_ev tb kp n d mid t = some r := by
  classical
  unfold q_EV
  constructor
  · intro h
    split at h
    · rename_i hx
      cases h
      exact Classical.choose_spec hx
    · cases h
  · rintro ⟨n, hn⟩
    have hx : ∃ r n, q_ev tb kp n d mid t = some r := ⟨r, n, hn⟩
    rw [dif_pos hx]
    obtain ⟨m, hm⟩ := Classical.choose_spec hx
    have h1 := q_ev_le tb kp (Nat.le_max_left n m) hn
    have h2 := q_ev_le tb kp (Nat.le_max_right n m) hm
    rw [h1] at h2
    exact h2.symm
theorem q_oext {a b : Option QR} (h : ∀ r, a = some r ↔ b = some r) : a = b := by
  cases a with
  | none =>
    cases b with
    | none => rfl
    | some y => exact absurd ((h y).mpr rfl) (by simp)
  | some x => exact ((h x).mp rfl).symm
/-- a method's run from its entry -/
noncomputable def q_CL (tb : QT) (kp : QK) (d : Nat) (e : QE) : Option QR := q_EV tb kp d e.1 (0, (q_la 0 e.2.1, ([], e.2.2)))
theorem q_EV_eq (tb : QT) (kp : QK) (d mid : Nat) (t : QS) : q_EV tb kp (d + 1) mid t = q_step tb (q_CL tb kp d) (fun u => q_EV tb kp (d + 1) mid (q_cut kp mid u)) mid t := by
  refine q_oext fun r => ⟨fun h => ?_, fun h => ?_⟩
  · obtain ⟨n, hn⟩ := (q_EV_iff tb kp _ _ _ _).mp h
    cases n with
    | zero => cases hn
    | succ n => exact q_step_mono (fun e r h => (q_EV_iff tb kp _ _ _ _).mpr ⟨n, h⟩) (fun t r h => (q_EV_iff tb kp _ _ _ _).mpr ⟨n, h⟩) hn
  · unfold q_step at h
    split at h
    · rename_i o ho
      obtain ⟨n, hn⟩ := q_run_cont (Kc := fun n e => q_ev tb kp n d e.1 (0, (q_la 0 e.2.1, ([], e.2.2)))) (K := fun n u => q_ev tb kp n (d + 1) mid (q_cut kp mid u)) (fun i j e r hij h => q_ev_le tb kp hij h) (fun i j t r hij h => q_ev_le tb kp hij h) (fun e r h => (q_EV_iff tb kp _ _ _ _).mp h) (fun t r h => (q_EV_iff tb kp _ _ _ _).mp h) _ _ h
      refine (q_EV_iff tb kp _ _ _ _).mpr ⟨n + 1, ?_⟩
      show q_step tb _ _ mid t = some r
      unfold q_step
      rw [ho]
      exact hn
    · cases h
noncomputable def q_go (tb : QT) (kp : QK) (d mid : Nat) : Nat → QS → Option QR
  | 0, t => q_EV tb kp (d + 1) mid t
  | k + 1, t => q_step tb (q_CL tb kp d) (fun u => match kp mid u.1 with
    | some ks => q_EV tb kp (d + 1) mid (u.1, (q_kp ks u.2.1, u.2.2))
    | none => q_go tb kp d mid k u) mid t
theorem q_go_eq (tb : QT) (kp : QK) (d mid : Nat) : ∀ (k : Nat) (t : QS), q_go tb kp d mid k t = q_EV tb kp (d + 1) mid t := by
  intro k
  induction k with
  | zero => intro t; rfl
  | succ k ih =>
    intro t
    rw [q_EV_eq]
    show q_step tb _ _ mid t = _
    have e : (fun u : QS => match kp mid u.1 with
      | some ks => q_EV tb kp (d + 1) mid (u.1, (q_kp ks u.2.1, u.2.2))
      | none => q_go tb kp d mid k u) = (fun u => q_EV tb kp (d + 1) mid (q_cut kp mid u)) := by
      funext u
      unfold q_cut
      split
      · rfl
      · exact ih u
    rw [e]
end
section
theorem q_bF {a b : Nat} (h : a ≠ b) : Nat.beq a b = false := by
  cases e : Nat.beq a b
  · rfl
  · exact absurd (Nat.eq_of_beq_eq_true e) h
theorem q_bT {a b : Nat} (h : a = b) : Nat.beq a b = true := by subst h; exact Nat.beq_refl a
theorem q_lT {a b : Nat} (h : a ≤ b) : Nat.ble a b = true := Nat.ble_eq_true_of_le h
theorem q_lF {a b : Nat} (h : b < a) : Nat.ble a b = false := by
  cases e : Nat.ble a b
  · rfl
  · exact absurd (Nat.le_of_ble_eq_true e) (by omega)
/-! WORLDS of the little machine: the shape of all cells, fixed for ever once the two objects are made; what a state of it says of the machine's own heap -/
abbrev QX : Type := Nat × (Nat → Int32)
abbrev QG : Type := ((Nat → ClassId) × (Nat → Nat → Nat)) × ((Nat → Nat) × (ClassId × ClassId))
def q_ad (g : QG) : Nat → Nat := g.2.1
def q_c (g : QG) : QV → Value
  | .inl x => .int x
  | .inr (.inl x) => .long x
  | .inr (.inr (0, _)) => .null
  | .inr (.inr (_ + 1, p)) => .ref (q_ad g p)
def q_cl (g : QG) (q : Nat × QV) : Nat × Value := (q.1, q_c g q.2)
-- kinds: 1 Bed, 2 Orders, 3 the Pile of 8, 4 the Pile of 2, 5 Quarry, 6 Rows, 7 Text, 8 StoneApologies, 9 StoneApologiesModel, 10 the script; 20 + n: n Quarries; 100 + n: n ints
def q_shq : List Nat := [5, 106, 106, 106, 104, 136, 124]
def q_shb : List Nat := [1, 106, 106, 106, 104, 104, 124, 136, 244]
def q_shl : List Nat := [8, 7, 300, 103] ++ q_shb ++ q_shb ++ q_shq ++ q_shq ++ [3, 28] ++ q_shq ++ q_shq ++ q_shq ++ q_shq ++ q_shq ++ q_shq ++ q_shq ++ q_shq ++ [4, 22] ++ q_shq ++ q_shq ++ [6, 104] ++ [2, 27] ++ q_shq ++ q_shq ++ q_shq ++ q_shq ++ q_shq ++ q_shq ++ q_shq ++ [106, 106] ++ [9, 1677, 106, 106, 106, 104, 104, 300, 112, 106, 108, 124, 105, 105, 106, 104, 107, 106]
def q_sh (p : Nat) : Nat := q_shl.getD p 0
def q_cio (k : Nat) : Nat := [99, 0, 1, 2, 2, 3, 4, 5, 6, 7].getD k 99
def q_nf (k : Nat) : Nat := [0, 12, 5, 3, 3, 8, 2, 4, 9, 30].getD k 0
/-- an object's field that is a reference: the kind of what it holds; whether its place is told from the object's own; how far -/
def q_frl : List (List (Option (Nat × (Bool × Nat)))) := [[],
  [none, none, none, none, some (106, (true, 1)), some (106, (true, 2)), some (106, (true, 3)), some (104, (true, 4)), some (104, (true, 5)), some (124, (true, 6)), some (136, (true, 7)), some (244, (true, 8))],
  [some (27, (true, 1)), some (106, (true, 51)), some (106, (true, 52)), none, none],
  [some (28, (true, 1)), none, none],
  [some (22, (true, 1)), none, none],
  [some (1, (false, 4)), none, some (106, (true, 1)), some (106, (true, 2)), some (106, (true, 3)), some (104, (true, 4)), some (136, (true, 5)), some (124, (true, 6))],
  [some (5, (false, 29)), some (104, (true, 1))],
  [some (300, (true, 1)), some (103, (true, 2)), none, none],
  [some (7, (false, 1)), some (1, (false, 4)), some (1, (false, 13)), some (5, (false, 22)), some (5, (false, 29)), some (3, (false, 36)), some (4, (false, 94)), some (6, (false, 110)), some (2, (false, 112))],
  [some (1677, (true, 1)), none, none, none, some (106, (true, 2)), some (106, (true, 3)), none, some (106, (true, 4)), none, some (104, (true, 5)), some (104, (true, 6)), none, some (300, (true, 7)), none, none, none, none, some (112, (true, 8)), none, some (106, (true, 9)), none, some (108, (true, 10)), none, some (124, (true, 11)), some (105, (true, 12)), some (105, (true, 13)), some (106, (true, 14)), some (104, (true, 15)), some (107, (true, 16)), some (106, (true, 17))]]
def q_fr (k j : Nat) : Option (Nat × (Bool × Nat)) := (q_frl.getD k []).getD j none
def q_tg (p : Nat) (o : Nat × (Bool × Nat)) : Nat := cond o.2.1 (p + o.2.2) o.2.2
def q_rv (p : Nat) (o : Nat × (Bool × Nat)) : QV := .inr (.inr (o.1, q_tg p o))
def q_fv (g : QG) (H : QH) (k p j : Nat) : Value := match q_fr k j with
  | none => .int (H p j)
  | some o => q_c g (q_rv p o)
def q_fs (g : QG) (H : QH) (k p : Nat) : List Value := (List.range (q_nf k)).map (q_fv g H k p)
def q_ek (g : QG) (H : QH) (k p : Nat) : va_E := if 100 ≤ k then .inl (g.2.2.1, (k - 100, .inl (H p))) else if 20 ≤ k then .inl (g.2.2.2, (k - 20, .inr (.inr (.inr (.inr (fun j => some (q_ad g (p + 1 + 7 * j)))))))) else .inr (q_cio k, q_fs g H k p)
def q_en (g : QG) (H : QH) (p : Nat) : va_E := q_ek g H (q_sh p) p
def q_wd (g : QG) (H : QH) : va_W := (List.range 183).map (fun p => (q_ad g p, q_en g H p))
def q_A (g : QG) : Nat → Prop := fun q => ∃ p, p < 183 ∧ q = q_ad g p
def q_hs (H : QH) (p j : Nat) (x : Int32) : QH := fun a b => cond (Nat.beq a p) (cond (Nat.beq b j) x (H a b)) (H a b)
theorem q_hs_ne {H : QH} {p j a : Nat} {x : Int32} (h : a ≠ p) : q_hs H p j x a = H a := by
  funext b
  unfold q_hs
  rw [show Nat.beq a p = false from q_bF h]
  rfl
theorem q_hs_eq {H : QH} {p j : Nat} {x : Int32} : q_hs H p j x p = upd (H p) j x := by
  funext b
  unfold q_hs upd
  rw [show Nat.beq p p = true from q_bT rfl]
  by_cases hb : b = j
  · subst hb; rw [q_bT rfl]; simp
  · rw [show Nat.beq b j = false from q_bF hb]; simp [hb]
theorem q_wd_get (g : QG) (H : QH) {p : Nat} (h : p < 183) : (q_wd g H)[p]? = some (q_ad g p, q_en g H p) := by
  unfold q_wd
  rw [List.getElem?_map, List.getElem?_range h]
  rfl
theorem q_wd_in {g : QG} {H : QH} {k : Nat} {q : Nat × va_E} (h : (q_wd g H)[k]? = some q) : k < 183 ∧ q = (q_ad g k, q_en g H k) := by
  have hl : k < (q_wd g H).length := (List.getElem?_eq_some_iff.mp h).1
  have hk : k < 183 := by simpa [q_wd] using hl
  rw [q_wd_get g H hk] at h
  exact ⟨hk, (Option.some.inj h).symm⟩
theorem q_wd_set (g : QG) {H H' : QH} {p : Nat} (hp : p < 183) (hq : ∀ q, q ≠ p → H' q = H q) : (q_wd g H).set p (q_ad g p, q_en g H' p) = q_wd g H' := by
  refine List.ext_getElem? fun i => ?_
  have hlen : (q_wd g H).length = 183 := by simp [q_wd]
  by_cases hi : i = p
  · subst hi
    rw [List.getElem?_set_self (by rw [hlen]; exact hp), q_wd_get g H' hp]
  · rw [List.getElem?_set_ne (Ne.symm hi)]
    by_cases hl : i < 183
    · rw [q_wd_get g H hl, q_wd_get g H' hl]
      have e : q_en g H i = q_en g H' i := by
        have h1 := hq i hi
        unfold q_en q_ek q_fs
        have e2 : q_fv g H (q_sh i) i = q_fv g H' (q_sh i) i := by
          funext j
          unfold q_fv
          rw [h1]
        rw [h1, e2]
      rw [e]
    · have h1 : (q_wd g H).length ≤ i := by rw [hlen]; omega
      have h2 : (q_wd g H').length ≤ i := by simp [q_wd]; omega
      rw [List.getElem?_eq_none h1, List.getElem?_eq_none h2]
def q_inj (g : QG) : Prop := ∀ i j, i < 184 → j < 184 → q_ad g i = q_ad g j → i = j
theorem q_wd_D {g : QG} (hJ : q_inj g) (H : QH) : va_D (q_A g) (q_wd g H) := by
  refine ⟨fun i j x y hi hj hxy => ?_, fun k q hk => ?_⟩
  · obtain ⟨h1, rfl⟩ := q_wd_in hi
    obtain ⟨h2, rfl⟩ := q_wd_in hj
    exact hJ i j (by omega) (by omega) hxy
  · obtain ⟨h1, rfl⟩ := q_wd_in hk
    exact ⟨k, h1, rfl⟩
/-- a value that is a reference is the place of a cell of its kind -/
def q_vd : QV → Prop
  | .inr (.inr (k + 1, p)) => (k + 1 = 10 ∧ p = 183) ∨ (p < 183 ∧ q_sh p = k + 1)
  | _ => True
def q_okL (ls : QL) : Prop := ∀ q ∈ ls, q_vd q.2
def q_okS (st : List QV) : Prop := ∀ v ∈ st, q_vd v
def q_ok (t : QS) : Prop := q_okL t.2.1 ∧ q_okS t.2.2.1
def q_okR (r : QR) : Prop := ∀ v, r.1 = some v → q_vd v
def q_cats : List QV → Nat
  | [] => 0
  | v :: st => cond (q_big v) 2 1 + q_cats st
theorem q_okS_nil : q_okS [] := fun _ h => by cases h
theorem q_okS_cons {v : QV} {st : List QV} (h1 : q_vd v) (h2 : q_okS st) : q_okS (v :: st) := fun w hw => (List.mem_cons.mp hw).elim (fun e => e ▸ h1) (h2 w)
theorem q_okS_tl {v : QV} {st : List QV} (h : q_okS (v :: st)) : q_okS st := fun w hw => h w (List.mem_cons_of_mem _ hw)
theorem q_okS_hd {v : QV} {st : List QV} (h : q_okS (v :: st)) : q_vd v := h v List.mem_cons_self
theorem q_vI (x : Int32) : q_vd (.inl x) := trivial
theorem q_vJ (x : Int64) : q_vd (.inr (.inl x)) := trivial
-- shapes are consistent
def q_chk (p : Nat) : Bool := (List.range (q_nf (q_sh p))).all (fun j => match q_fr (q_sh p) j with
  | none => true
  | some o => Nat.beq (q_sh (q_tg p o)) o.1 && Nat.ble (q_tg p o + 1) 183 && !(Nat.beq o.1 10) && Nat.ble 1 o.1)
def q_chq (p : Nat) : Bool := cond (Nat.ble 100 (q_sh p)) true (cond (Nat.ble 20 (q_sh p)) ((List.range (q_sh p - 20)).all (fun i => Nat.beq (q_sh (p + 1 + 7 * i)) 5 && Nat.ble (p + 1 + 7 * i + 1) 183)) (Nat.ble 1 (q_sh p) && Nat.ble (q_sh p) 9))
theorem q_chk_all : (List.range 183).all (fun p => q_chk p && q_chq p) = true := by decide +kernel
theorem q_chk_at {p : Nat} (hp : p < 183) : q_chk p = true ∧ q_chq p = true := by
  have h := List.all_eq_true.mp q_chk_all p (List.mem_range.mpr hp)
  simpa [Bool.and_eq_true] using h
theorem q_fr_lt : ∀ k j o, q_fr k j = some o → j < q_nf k ∧ k < 10 := by
  intro k j o h
  have hk : k < 10 := by
    rcases Nat.lt_or_ge k 10 with h1 | h1
    · exact h1
    · exfalso
      have e : q_frl.getD k [] = [] := by rw [List.getD_eq_getElem?_getD, List.getElem?_eq_none (show q_frl.length ≤ k from h1)]; rfl
      unfold q_fr at h
      rw [e] at h
      simp at h
  refine ⟨?_, hk⟩
  rcases Nat.lt_or_ge j (q_nf k) with h1 | h1
  · exact h1
  · exfalso
    unfold q_fr at h
    have hl : (q_frl.getD k []).length = q_nf k := by
      have : ∀ k, k < 10 → (q_frl.getD k []).length = q_nf k := by decide +kernel
      exact this k hk
    rw [List.getD_eq_getElem?_getD (l := q_frl.getD k []), List.getElem?_eq_none (by rw [hl]; exact h1)] at h
    simp at h
theorem q_fr_ok {p j : Nat} {o : Nat × (Bool × Nat)} (hp : p < 183) (h : q_fr (q_sh p) j = some o) : q_vd (q_rv p o) ∧ 1 ≤ o.1 := by
  have h1 := (q_chk_at hp).1
  have h2 := List.all_eq_true.mp h1 j (List.mem_range.mpr (q_fr_lt _ _ _ h).1)
  rw [h] at h2
  obtain ⟨k, o2⟩ := o
  simp only [Bool.and_eq_true] at h2
  obtain ⟨⟨⟨h3, h4⟩, h5⟩, h6⟩ := h2
  have h3 := Nat.eq_of_beq_eq_true h3
  have h4 := Nat.le_of_ble_eq_true h4
  have h6 : 1 ≤ k := Nat.le_of_ble_eq_true h6
  obtain ⟨k, rfl⟩ : ∃ k', k = k' + 1 := ⟨k - 1, by omega⟩
  exact ⟨Or.inr ⟨by omega, h3⟩, h6⟩
theorem q_el_ok {p i : Nat} (hp : p < 183) (h1 : 20 ≤ q_sh p) (h2 : q_sh p < 100) (hi : i < q_sh p - 20) : q_vd (.inr (.inr (5, p + 1 + 7 * i))) := by
  have h := (q_chk_at hp).2
  unfold q_chq at h
  rw [show Nat.ble 100 (q_sh p) = false from q_lF h2, show Nat.ble 20 (q_sh p) = true from q_lT h1] at h
  have h3 := List.all_eq_true.mp h i (List.mem_range.mpr hi)
  simp only [Bool.and_eq_true] at h3
  have h5 := Nat.le_of_ble_eq_true h3.2
  exact Or.inr ⟨by omega, Nat.eq_of_beq_eq_true h3.1⟩
-- locals
theorem q_lk_mem {ls : QL} {i : Nat} {v : QV} (h : q_lk ls i = some v) : (i, v) ∈ ls := by
  induction ls with
  | nil => cases h
  | cons q ls ih =>
    obtain ⟨j, w⟩ := q
    unfold q_lk at h
    by_cases hj : j = i
    · subst hj
      rw [q_bT rfl] at h
      cases h
      exact List.mem_cons_self
    · rw [show Nat.beq j i = false from q_bF hj] at h
      exact List.mem_cons_of_mem _ (ih h)
theorem q_kp_mem {ks : List Nat} {ls : QL} {q : Nat × QV} (h : q ∈ q_kp ks ls) : q ∈ ls := by
  induction ls with
  | nil => exact h
  | cons r ls ih =>
    obtain ⟨j, w⟩ := r
    unfold q_kp at h
    cases hm : q_mem j ks with
    | true =>
      rw [hm] at h
      rcases List.mem_cons.mp h with h1 | h1
      · rw [h1]; exact List.mem_cons_self
      · exact List.mem_cons_of_mem _ (ih h1)
    | false =>
      rw [hm] at h
      exact List.mem_cons_of_mem _ (ih h)
theorem q_in_mem {i : Nat} {v : QV} {ls : QL} {q : Nat × QV} (h : q ∈ q_in i v ls) : q = (i, v) ∨ q ∈ ls := by
  induction ls with
  | nil => exact Or.inl (by simpa [q_in] using h)
  | cons r ls ih =>
    obtain ⟨j, w⟩ := r
    unfold q_in at h
    cases hm : Nat.ble i j with
    | true =>
      rw [hm] at h
      rcases List.mem_cons.mp h with h1 | h1
      · exact Or.inl h1
      · exact Or.inr h1
    | false =>
      rw [hm] at h
      rcases List.mem_cons.mp h with h1 | h1
      · exact Or.inr (by rw [h1]; exact List.mem_cons_self)
      · rcases ih h1 with h2 | h2
        · exact Or.inl h2
        · exact Or.inr (List.mem_cons_of_mem _ h2)
theorem q_rm_mem {i : Nat} {ls : QL} {q : Nat × QV} (h : q ∈ q_rm i ls) : q ∈ ls ∧ q.1 ≠ i ∧ ¬ (q.1 + 1 = i ∧ q_big q.2 = true) := by
  induction ls with
  | nil => cases h
  | cons r ls ih =>
    obtain ⟨j, w⟩ := r
    unfold q_rm at h
    by_cases hj : j = i
    · subst hj
      rw [q_bT rfl] at h
      obtain ⟨h1, h2, h3⟩ := ih h
      exact ⟨List.mem_cons_of_mem _ h1, h2, h3⟩
    · rw [show Nat.beq j i = false from q_bF hj] at h
      by_cases hb : j + 1 = i ∧ q_big w = true
      · rw [show Nat.beq (j + 1) i = true from q_bT hb.1, hb.2] at h
        obtain ⟨h1, h2, h3⟩ := ih h
        exact ⟨List.mem_cons_of_mem _ h1, h2, h3⟩
      · have e : cond (Nat.beq (j + 1) i) (q_big w) false = false := by
          by_cases h1 : j + 1 = i
          · rw [show Nat.beq (j + 1) i = true from q_bT h1]
            cases hw : q_big w with
            | true => exact absurd ⟨h1, hw⟩ hb
            | false => rfl
          · rw [show Nat.beq (j + 1) i = false from q_bF h1]; rfl
        rw [e] at h
        rcases List.mem_cons.mp h with h1 | h1
        · rw [h1]; exact ⟨List.mem_cons_self, hj, hb⟩
        · obtain ⟨h2, h3, h4⟩ := ih h1
          exact ⟨List.mem_cons_of_mem _ h2, h3, h4⟩
theorem q_big_cat (g : QG) (v : QV) : (q_c g v).category = if q_big v = true then 2 else 1 := by
  rcases v with x | x | ⟨k, p⟩
  · rfl
  · rfl
  · cases k <;> rfl
theorem q_cat1 {g : QG} {v : QV} (h : q_big v = false) : (q_c g v).category = 1 := by rw [q_big_cat, h]; rfl
theorem q_has_sub {ls : Array Slot} {n : Nat} {l1 l2 : List (Nat × Value)} (h : lv_has ls n l1) (hs : ∀ q ∈ l2, q ∈ l1) : lv_has ls n l2 := ⟨h.1, h.2.1, fun q hq => h.2.2 q (hs q hq)⟩
theorem q_lk_at {g : QG} {ls : Array Slot} {n : Nat} {lv : QL} {i : Nat} {v : QV} (h : lv_has ls n (lv.map (q_cl g))) (hk : q_lk lv i = some v) : ls[i]? = some (.val (q_c g v)) := h.2.2 (i, q_c g v) (List.mem_map.mpr ⟨(i, v), q_lk_mem hk, rfl⟩)
theorem q_st_has {g : QG} {ls : Array Slot} {n i : Nat} {lv : QL} {v : QV} (h : lv_has ls n ((i, q_c g v) :: (lv.map (q_cl g)).filter (fun q => !(q.1 == i) && !(q.1 + 1 == i && q.2.category == 2)))) : lv_has ls n ((q_st i v lv).map (q_cl g)) := by
  refine q_has_sub h fun q hq => ?_
  obtain ⟨⟨j, w⟩, hr, rfl⟩ := List.mem_map.mp hq
  rcases q_in_mem hr with h1 | h1
  · cases h1; exact List.mem_cons_self
  · obtain ⟨h2, h3, h4⟩ := q_rm_mem h1
    refine List.mem_cons_of_mem _ (List.mem_filter.mpr ⟨List.mem_map.mpr ⟨_, h2, rfl⟩, ?_⟩)
    simp only [q_cl, q_big_cat]
    have h5 : (j == i) = false := by simpa using h3
    rw [h5]
    by_cases hb : q_big w = true
    · have h6 : (j + 1 == i) = false := by simpa [hb] using h4
      simp [h6]
    · simp [hb]
theorem q_st2_has {g : QG} {ls : Array Slot} {n i : Nat} {lv : QL} {v : QV} (h : lv_has ls n ((i, q_c g v) :: (lv.map (q_cl g)).filter (fun q => !(q.1 == i) && (!(q.1 == i + 1) && !(q.1 + 1 == i && q.2.category == 2))))) : lv_has ls n ((q_st2 i v lv).map (q_cl g)) := by
  refine q_has_sub h fun q hq => ?_
  obtain ⟨⟨j, w⟩, hr, rfl⟩ := List.mem_map.mp hq
  rcases q_in_mem hr with h1 | h1
  · cases h1; exact List.mem_cons_self
  · obtain ⟨h1a, h3a, h4a⟩ := q_rm_mem h1
    obtain ⟨h2, h3, h4⟩ := q_rm_mem h1a
    refine List.mem_cons_of_mem _ (List.mem_filter.mpr ⟨List.mem_map.mpr ⟨_, h2, rfl⟩, ?_⟩)
    simp only [q_cl, q_big_cat]
    have h5 : (j == i) = false := by simpa using h3
    have h5a : (j == i + 1) = false := by simpa using h3a
    rw [h5, h5a]
    by_cases hb : q_big w = true
    · have h6 : (j + 1 == i) = false := by simpa [hb] using h4
      simp [h6]
    · simp [hb]
theorem q_okL_in {i : Nat} {v : QV} {ls : QL} (h1 : q_vd v) (h2 : q_okL ls) : q_okL (q_st i v ls) := fun q hq => (q_in_mem hq).elim (fun e => by rw [e]; exact h1) (fun h => h2 q (q_rm_mem h).1)
theorem q_okL_in2 {i : Nat} {v : QV} {ls : QL} (h1 : q_vd v) (h2 : q_okL ls) : q_okL (q_st2 i v ls) := fun q hq => (q_in_mem hq).elim (fun e => by rw [e]; exact h1) (fun h => h2 q (q_rm_mem (q_rm_mem h).1).1)
theorem q_la_map (g : QG) : ∀ (i : Nat) (vs : List QV), (q_la i vs).map (q_cl g) = lv_args i (vs.map (q_c g)) := by
  intro i vs
  induction vs generalizing i with
  | nil => rfl
  | cons v vs ih =>
    show (i, q_c g v) :: (q_la _ vs).map (q_cl g) = (i, q_c g v) :: lv_args _ (vs.map (q_c g))
    rw [ih, q_big_cat]
    cases q_big v <;> rfl
theorem q_la_ok : ∀ (i : Nat) (vs : List QV), q_okS vs → q_okL (q_la i vs) := by
  intro i vs
  induction vs generalizing i with
  | nil => intro _ q hq; cases hq
  | cons v vs ih =>
    intro h q hq
    rcases List.mem_cons.mp hq with h1 | h1
    · rw [h1]; exact q_okS_hd h
    · exact ih _ (q_okS_tl h) q h1

-- the tables' words that every method may be told
def q_tw : List Cond := lw_tbl.filter goodWord
theorem q_tw_of {w : Cond} (h : w ∈ lw_tbl) (hg : goodWord w = true) : w ∈ q_tw := List.mem_filter.mpr ⟨h, hg⟩
theorem q_tw_lw {w : Cond} (h : w ∈ q_tw) : w ∈ lw_tbl := (List.mem_filter.mp h).1
theorem q_tw_good {w : Cond} (h : w ∈ q_tw) : (w.onTables && w.keeps) = true ∨ ∃ ty, w = .arrayClass ty := good_of_word (List.mem_filter.mp h).2
theorem q_w1 {i : Nat} {w : Cond} (h : tables_1_1[i]? = some w) (hg : goodWord w = true) : w ∈ q_tw := q_tw_of (List.mem_append_right _ (List.mem_append_left _ (List.mem_of_getElem? h))) hg
theorem q_w2 {i : Nat} {w : Cond} (h : tables_1_2[i]? = some w) (hg : goodWord w = true) : w ∈ q_tw := q_tw_of (List.mem_append_right _ (List.mem_append_right _ (List.mem_append_left _ (List.mem_of_getElem? h)))) hg
theorem q_w3 {i : Nat} {w : Cond} (h : tables_1_3[i]? = some w) (hg : goodWord w = true) : w ∈ q_tw := q_tw_of (List.mem_append_right _ (List.mem_append_right _ (List.mem_append_right _ (List.mem_append_left _ (List.mem_of_getElem? h))))) hg
theorem q_w4 {i : Nat} {w : Cond} (h : tables_1_4[i]? = some w) (hg : goodWord w = true) : w ∈ q_tw := q_tw_of (List.mem_append_right _ (List.mem_append_right _ (List.mem_append_right _ (List.mem_append_right _ (List.mem_append_left _ (List.mem_of_getElem? h)))))) hg
theorem q_w5 {i : Nat} {w : Cond} (h : tables_1_5[i]? = some w) (hg : goodWord w = true) : w ∈ q_tw := q_tw_of (List.mem_append_right _ (List.mem_append_right _ (List.mem_append_right _ (List.mem_append_right _ (List.mem_append_right _ (List.mem_of_getElem? h)))))) hg
theorem q_w0 {i : Nat} {w : Cond} (h : (k2_sels lw_privs)[i]? = some w) (hg : goodWord w = true) : w ∈ q_tw := q_tw_of (List.mem_append_left _ (List.mem_of_getElem? h)) hg
def q_nests : List Cond := [Cond.methodLinkNest RX6 9 yX5_init "StoneApologies", Cond.methodLinkNest RX6 18 yX0_init "StoneApologies", Cond.methodLinkNest RX5 22 yX6_put "StoneApologies", Cond.methodLinkNest RX0 49 yX6_fill "StoneApologies", Cond.methodLinkNest RX5 46 yX6_at "StoneApologies", Cond.methodLinkNest RX0 53 yX6_put "StoneApologies", Cond.methodLinkNest RX0 57 yX6_isUse "StoneApologies", Cond.methodLinkNest RX0 65 yX6_at "StoneApologies", Cond.methodLinkNest RX3 38 yX6_fill "StoneApologies", Cond.methodLinkNest RX3 47 yX6_copy "StoneApologies", Cond.methodLinkNest RX3 54 yX6_at "StoneApologies", Cond.methodLinkNest RX2 25 yX6_pick "StoneApologies", Cond.methodLinkNest RX3 89 yX6_put "StoneApologies", Cond.methodLinkNest RX3 125 yX6_saying "StoneApologies", Cond.methodLinkNest RX4 49 yX6_at "StoneApologies", Cond.methodLinkNest RX4 56 yX6_saying "StoneApologies", Cond.methodLinkNest RX4 60 yX6_put "StoneApologies", Cond.methodLinkNest RX1 27 yX6_pick "StoneApologies", Cond.methodLinkNest RX1 50 yX6_copy "StoneApologies", Cond.methodLinkNest RX1 67 yX6_put "StoneApologies"]
theorem q_nests_on : ∀ w ∈ q_nests, w.onTables = true := by
  intro w hw
  simp only [q_nests, List.mem_cons, List.not_mem_nil, or_false] at hw
  rcases hw with rfl | rfl | rfl | rfl | rfl | rfl | rfl | rfl | rfl | rfl | rfl | rfl | rfl | rfl | rfl | rfl | rfl | rfl | rfl | rfl <;> rfl
theorem q_nests_warm {s U : State} (hW : s.WarmedH U.vm) : ∀ w ∈ q_nests, va_Nw w s → va_Nw w U := by
  intro w hw
  simp only [q_nests, List.mem_cons, List.not_mem_nil, or_false] at hw
  rcases hw with rfl | rfl | rfl | rfl | rfl | rfl | rfl | rfl | rfl | rfl | rfl | rfl | rfl | rfl | rfl | rfl | rfl | rfl | rfl | rfl <;> exact fun h => va_Nw.warmM hW h
def q_infl : List (MethodName × (ByteArray × (Nat × Option FieldType))) := [(yX0_clear, (cX0_clear, (1, none))),
  (yX0_isWhole, (cX0_isWhole, (1, (some .boolean)))),
  (yX0_addBlock, (cX0_addBlock, (3, (some .boolean)))),
  (yX0_addWord, (cX0_addWord, (2, (some .boolean)))),
  (yX0_addSpeaker, (cX0_addSpeaker, (3, (some .boolean)))),
  (yX0_setFrost, (cX0_setFrost, (2, (some .boolean)))),
  (yX0_addVow, (cX0_addVow, (4, (some .boolean)))),
  (yX0_reckon, (cX0_reckon, (5, none))),
  (yX0_plainWorth, (cX0_plainWorth, (4, (some .int)))),
  (yX0_spokenWorth, (cX0_spokenWorth, (5, (some .int)))),
  (yX0_coldFor, (cX0_coldFor, (2, (some .int)))),
  (yX0_vowPlace, (cX0_vowPlace, (2, (some .int)))),
  (yX0_wordPlace, (cX0_wordPlace, (2, (some .int)))),
  (yX0_sayingPlace, (cX0_sayingPlace, (3, (some .int)))),
  (yX1_seek, (cX1_seek, (3, none))),
  (yX1_extend, (cX1_extend, (8, none))),
  (yX2_clear, (cX2_clear, (1, none))),
  (yX2_push, (cX2_push, (3, none))),
  (yX2_pop, (cX2_pop, (4, (some .boolean)))),
  (yX3_begin, (cX3_begin, (1, none))),
  (yX3_copyFrom, (cX3_copyFrom, (2, none))),
  (yX3_isIn, (cX3_isIn, (3, (some .boolean)))),
  (yX3_tally, (cX3_tally, (4, (some .int)))),
  (yX3_hoursLeft, (cX3_hoursLeft, (3, (some .int)))),
  (yX3_lackOf, (cX3_lackOf, (2, (some .int)))),
  (yX3_timesHeard, (cX3_timesHeard, (3, (some .int)))),
  (yX3_worthOf, (cX3_worthOf, (5, (some .int)))),
  (yX3_vowOf, (cX3_vowOf, (3, (some .int)))),
  (yX3_canSay, (cX3_canSay, (3, (some .boolean)))),
  (yX3_speak, (cX3_speak, (6, none))),
  (yX3_hear, (cX3_hear, (5, none))),
  (yX3_hearsThrough, (cX3_hearsThrough, (4, (some .boolean)))),
  (yX3_soften, (cX3_soften, (4, none))),
  (yX3_vow, (cX3_vow, (4, none))),
  (yX3_carryOff, (cX3_carryOff, (3, none))),
  (yX3_wouldCrack, (cX3_wouldCrack, (4, (some .boolean)))),
  (yX3_belies, (cX3_belies, (5, (some .boolean)))),
  (yX3_night, (cX3_night, (2, none))),
  (yX3_dearest, (cX3_dearest, (7, (some .int)))),
  (yX3_askAll, (cX3_askAll, (4, none))),
  (yX3_askOne, (cX3_askOne, (5, none))),
  (yX3_dearestWord, (cX3_dearestWord, (7, (some .int)))),
  (yX3_mildest, (cX3_mildest, (10, (some .int)))),
  (yX3_harmOf, (cX3_harmOf, (6, (some .int)))),
  (yX3_explains, (cX3_explains, (3, (some .boolean)))),
  (yX3_explainsOne, (cX3_explainsOne, (4, (some .boolean)))),
  (yX3_softerBy, (cX3_softerBy, (8, (some .int)))),
  (yX4_shortest, (cX4_shortest, (3, (some .int)))),
  (yX4_extend, (cX4_extend, (11, (some .boolean)))),
  (yX4_shift, (cX4_shift, (6, none))),
  (yX5_append, (cX5_append, (2, none))),
  (yX5_readInto, (cX5_readInto, (4, (some .int)))),
  (yX5_readItem, (cX5_readItem, (6, (some .boolean)))),
  (yX5_readNumbers, (cX5_readNumbers, (4, (some .int)))),
  (yX5_readNumber, (cX5_readNumber, (3, (some .int)))),
  (yX5_letterAt, (cX5_letterAt, (2, (some .int)))),
  (yX6_write, (cX6_write, (2, (some .int)))),
  (yX6_wipe, (cX6_wipe, (2, (some .int)))),
  (yX6_fault, (cX6_fault, (1, (some .int)))),
  (yX6_lay, (cX6_lay, (1, (some .int)))),
  (yX6_block, (cX6_block, (3, (some .int)))),
  (yX6_word, (cX6_word, (2, (some .int)))),
  (yX6_speaker, (cX6_speaker, (3, (some .int)))),
  (yX6_heard, (cX6_heard, (3, (some .int)))),
  (yX6_promised, (cX6_promised, (3, (some .int)))),
  (yX6_worth, (cX6_worth, (4, (some .int)))),
  (yX6_say, (cX6_say, (4, (some .int)))),
  (yX6_promise, (cX6_promise, (5, (some .int)))),
  (yX6_take, (cX6_take, (3, (some .int)))),
  (yX6_pass, (cX6_pass, (3, (some .int)))),
  (yX6_undo, (cX6_undo, (1, (some .int)))),
  (yX6_least, (cX6_least, (4, (some .int)))),
  (yX6_best, (cX6_best, (2, (some .int)))),
  (yX6_order, (cX6_order, (2, (some .int)))),
  (yX6_days, (cX6_days, (4, (some .int)))),
  (yX6_frost, (cX6_frost, (4, (some .int)))),
  (yX6_uses, (cX6_uses, (4, (some .int)))),
  (yX6_harm, (cX6_harm, (2, (some .int)))),
  (yX6_liars, (cX6_liars, (4, (some .int)))),
  (yX6_said, (cX6_said, (8, (some .int)))),
  (yX6_deaf, (cX6_deaf, (10, (some .int)))),
  (yX6_year, (cX6_year, (5, (some .int)))),
  (yX6_keep, (cX6_keep, (1, (some .int)))),
  (yX6_back, (cX6_back, (1, (some .int)))),
  (yX6_count, (cX6_count, (2, (some .int)))),
  (yX6_layOut, (cX6_layOut, (1, none))),
  (yX6_isBlock, (cX6_isBlock, (2, (some .boolean)))),
  (yX6_isWord, (cX6_isWord, (2, (some .boolean)))),
  (yX6_isSpeaker, (cX6_isSpeaker, (2, (some .boolean)))),
  (yX6_isSaying, (cX6_isSaying, (4, (some .boolean)))),
  (yX6_isUse, (cX6_isUse, (1, (some .boolean)))),
  (yX6_isPart, (cX6_isPart, (1, (some .boolean)))),
  (yX6_saying, (cX6_saying, (2, (some .int)))),
  (yX6_weight, (cX6_weight, (5, (some .int)))),
  (yX6_commonMeasure, (cX6_commonMeasure, (4, (some .int)))),
  (yX6_drawOf, (cX6_drawOf, (4, (some .int)))),
  (yX6_live, (cX6_live, (6, none))),
  (yX6_at, (cX6_at, (2, (some .int)))),
  (yX6_put, (cX6_put, (3, none))),
  (yX6_fill, (cX6_fill, (3, none))),
  (yX6_copy, (cX6_copy, (3, none))),
  (yX6_pick, (cX6_pick, (2, (some (.object "StoneApologies$Quarry"))))),
  (yX7_in, (cX7_in, (6, (some .boolean)))),
  (yX7_has, (cX7_has, (2, (some .boolean)))),
  (yX7_ones, (cX7_ones, (3, (some .int)))),
  (yX7_copy, (cX7_copy, (4, none))),
  (yX7_isBlock, (cX7_isBlock, (2, (some .boolean)))),
  (yX7_isWord, (cX7_isWord, (2, (some .boolean)))),
  (yX7_isSpeaker, (cX7_isSpeaker, (2, (some .boolean)))),
  (yX7_starts, (cX7_starts, (2, none))),
  (yX7_addsBlock, (cX7_addsBlock, (3, none))),
  (yX7_addsWord, (cX7_addsWord, (2, none))),
  (yX7_addsSpeaker, (cX7_addsSpeaker, (3, none))),
  (yX7_begins, (cX7_begins, (2, none))),
  (yX7_write, (cX7_write, (2, (some .int)))),
  (yX7_wipe, (cX7_wipe, (2, (some .int)))),
  (yX7_letterAt, (cX7_letterAt, (2, (some .int)))),
  (yX7_takesNumber, (cX7_takesNumber, (5, (some .boolean)))),
  (yX7_takesBlock, (cX7_takesBlock, (2, (some .boolean)))),
  (yX7_takesWord, (cX7_takesWord, (1, (some .boolean)))),
  (yX7_takesSpeaker, (cX7_takesSpeaker, (2, (some .boolean)))),
  (yX7_takesFrost, (cX7_takesFrost, (1, (some .boolean)))),
  (yX7_takesPromise, (cX7_takesPromise, (3, (some .boolean)))),
  (yX7_takesItem, (cX7_takesItem, (2, (some .boolean)))),
  (yX7_faultOf, (cX7_faultOf, (2, (some .int)))),
  (yX7_fault, (cX7_fault, (1, (some .int)))),
  (yX7_lay, (cX7_lay, (1, (some .int)))),
  (yX7_block, (cX7_block, (3, (some .int)))),
  (yX7_word, (cX7_word, (2, (some .int)))),
  (yX7_speaker, (cX7_speaker, (3, (some .int)))),
  (yX7_heard, (cX7_heard, (3, (some .int)))),
  (yX7_promised, (cX7_promised, (3, (some .int)))),
  (yX7_byKind, (cX7_byKind, (3, (some .int)))),
  (yX7_less, (cX7_less, (2, (some .int)))),
  (yX7_heardOf, (cX7_heardOf, (4, (some .int)))),
  (yX7_spoken, (cX7_spoken, (5, (some .int)))),
  (yX7_worthOf, (cX7_worthOf, (5, (some .int)))),
  (yX7_worth, (cX7_worth, (4, (some .int)))),
  (yX7_inBed, (cX7_inBed, (3, (some .boolean)))),
  (yX7_hears, (cX7_hears, (5, (some .boolean)))),
  (yX7_comes, (cX7_comes, (3, none))),
  (yX7_says, (cX7_says, (6, none))),
  (yX7_passes, (cX7_passes, (3, none))),
  (yX7_canSay, (cX7_canSay, (4, (some .boolean)))),
  (yX7_isElse, (cX7_isElse, (7, (some .boolean)))),
  (yX7_takesFor, (cX7_takesFor, (4, none))),
  (yX7_minds, (cX7_minds, (2, none))),
  (yX7_say, (cX7_say, (4, (some .int)))),
  (yX7_promise, (cX7_promise, (5, (some .int)))),
  (yX7_take, (cX7_take, (3, (some .int)))),
  (yX7_pass, (cX7_pass, (3, (some .int)))),
  (yX7_undo, (cX7_undo, (1, (some .int)))),
  (yX7_tries, (cX7_tries, (1, none))),
  (yX7_bringsOut, (cX7_bringsOut, (7, (some .boolean)))),
  (yX7_least, (cX7_least, (4, (some .int)))),
  (yX7_bestOf, (cX7_bestOf, (8, (some .int)))),
  (yX7_best, (cX7_best, (2, (some .int)))),
  (yX7_asks, (cX7_asks, (4, none))),
  (yX7_bedOf, (cX7_bedOf, (3, (some .int)))),
  (yX7_bestOrder, (cX7_bestOrder, (9, (some .int)))),
  (yX7_order, (cX7_order, (3, (some .int)))),
  (yX7_bestWord, (cX7_bestWord, (7, (some .int)))),
  (yX7_days, (cX7_days, (5, (some .int)))),
  (yX7_frost, (cX7_frost, (3, (some .int)))),
  (yX7_uses, (cX7_uses, (4, (some .int)))),
  (yX7_harmOf, (cX7_harmOf, (5, (some .int)))),
  (yX7_harm, (cX7_harm, (10, (some .int)))),
  (yX7_lies, (cX7_lies, (6, (some .boolean)))),
  (yX7_liars, (cX7_liars, (5, (some .int)))),
  (yX7_said, (cX7_said, (9, (some .int)))),
  (yX7_deaf, (cX7_deaf, (13, (some .int)))),
  (yX7_manyHow, (cX7_manyHow, (5, (some .int)))),
  (yX7_doesBy, (cX7_doesBy, (5, none))),
  (yX7_year, (cX7_year, (7, (some .int)))),
  (yX7_keep, (cX7_keep, (1, (some .int)))),
  (yX7_back, (cX7_back, (1, (some .int)))),
  (yX7_count, (cX7_count, (2, (some .int)))),
  (yJ6_bitCount_0f7a4, (cJ6_bitCount_0f7a4, (1, (some .int))))]
def q_inf (mid : Nat) : MethodName × (ByteArray × (Nat × Option FieldType)) := q_infl.getD mid (yL_law, (cL_law, (4, some .boolean)))
def q_ws (mid : Nat) : List Cond := Cond.code (q_inf mid).1 (q_inf mid).2.1 (q_inf mid).2.2.1 (q_inf mid).2.2.2 :: q_tw
def q_okE (e : QE) : Prop := q_okS e.2.1 ∧ q_cats e.2.1 ≤ (q_inf e.1).2.2.1
def q_tys (g : QG) : List (ClassId × FieldType) := [(g.2.2.1, .int), (g.2.2.2, .object RX3)]
def q_WP (g : QG) (sx : QX) (H : QH) (U : State) : Prop := va_P g.1 vwCl (q_wd g H) U.heap ∧ va_K g.1 vwCl (q_tys g) U ∧ va_X (q_ad g 183) sx.1 sx.2 U U.heap ∧ ∀ w ∈ q_nests, va_Nw w U
def q_Pc (g : QG) (sx : QX) (e : QE) : Array Value → State → Prop := va_Pc (e.2.1.map (q_c g)) (fun U => q_WP g sx e.2.2 U)
def q_Qc (g : QG) (r : QR) : Array Value → State → Outcome → State → Prop := fun _ st oc t => (q_okR r ∧ oc = .returned (r.1.map (q_c g)) ∧ va_P g.1 vwCl (q_wd g r.2) t.heap) ∧ va_F (q_A g) st t
def q_Met (g : QG) (sx : QX) (l : Launch) (rm : Room) (e : QE) (r : QR) : Prop := Met l (q_inf e.1).1 (q_ws e.1) rm (q_Pc g sx e) (q_Qc g r) 0 0 (q_A g)
theorem q_blind (g : QG) (sx : QX) (e : QE) : FrameBlind (q_Pc g sx e) := fun a U gf mk q => by
  obtain ⟨h1, h2, h3, h4, h5⟩ := q
  exact ⟨h1, h2, va_K.moved (u := U) (U := U.calling gf mk a) (Vm.Alike.refl U.vm) h3, va_X.moved (u := U) (U := U.calling gf mk a) (Vm.Alike.refl U.vm) h4, fun w hw => va_Nw.same (u := U) (U := U.calling gf mk a) (q_nests_on w hw) rfl (h5 w hw)⟩
def q_W (g : QG) (p : Program) (l : Launch) (e : Env) (R : Room) (s : State) (m : MethodId) (args : Array Value) (below : List Frame) (meth : Method) (c : Code) (cells slots : Nat) (Q : State → Prop) (nL : Nat) (t : QS) : Prop := ∀ (Hh : Heap) (locs : List Loc) (lsA : Array Slot), lv_has lsA nL (t.2.1.map (q_cl g)) → va_P g.1 vwCl (q_wd g t.2.2.2) Hh → va_S (q_A g) s.heap Hh locs → W p l e R s m args below meth c Hh locs cells slots Q (F0 m t.1 lsA (t.2.2.1.map (q_c g)))
/-- what the machine's own returns need at the end of a run with the answer r -/
def q_Ret (g : QG) (p : Program) (l : Launch) (e : Env) (R : Room) (s : State) (m : MethodId) (args : Array Value) (below : List Frame) (meth : Method) (c : Code) (cells slots : Nat) (Q : State → Prop) (cc : ByteArray) (rt : Option FieldType) (P : QR → Prop) : Prop :=
  (∀ (pc : Nat) (x : Int32) (H : QH) (Hh : Heap) (locs : List Loc) (lsA : Array Slot) (ty : FieldType), rt = some ty → narrow ty (.int x) = .int x → decode cc pc = .ok (.ireturn, 1) → P (some (.inl x), H) → va_P g.1 vwCl (q_wd g H) Hh → va_S (q_A g) s.heap Hh locs → W p l e R s m args below meth c Hh locs cells slots Q (F0 m pc lsA [.int x])) ∧
  (∀ (pc : Nat) (H : QH) (Hh : Heap) (locs : List Loc) (lsA : Array Slot), rt = none → decode cc pc = .ok (.return_, 1) → P (none, H) → va_P g.1 vwCl (q_wd g H) Hh → va_S (q_A g) s.heap Hh locs → W p l e R s m args below meth c Hh locs cells slots Q (F0 m pc lsA [])) ∧
  (∀ (pc k q : Nat) (H : QH) (Hh : Heap) (locs : List Loc) (lsA : Array Slot) (C : String), rt = some (.object C) → decode cc pc = .ok (.areturn, 1) → q_vd (.inr (.inr (k, q))) → P (some (.inr (.inr (k, q))), H) → va_P g.1 vwCl (q_wd g H) Hh → va_S (q_A g) s.heap Hh locs → W p l e R s m args below meth c Hh locs cells slots Q (F0 m pc lsA [q_c g (.inr (.inr (k, q)))]))
def q_Cx (sx : QX) (g : QG) (p : Program) (l : Launch) (e : Env) (R : Room) (s : State) (m : MethodId) (args : Array Value) (below : List Frame) (meth : Method) (c : Code) (cells slots : Nat) (Q : State → Prop) (own : String) (cc : ByteArray) (nL : Nat) (rt : Option FieldType) (rm : Room) (P : QR → Prop) : Prop :=
  p.tables.exec = Jvm.exec ∧ c.code = cc ∧ c.maxLocals = nL ∧ s.vm.findClass own = some m.cls ∧ (∀ w ∈ q_tw, w.before args s = true) ∧ va_K g.1 vwCl (q_tys g) s ∧ va_X (q_ad g 183) sx.1 sx.2 s s.heap ∧ q_ad g 183 < s.heap.size ∧ (∀ w ∈ q_nests, va_Nw w s) ∧ q_inj g ∧ (rm.cells = 0 ∧ rm.slots = 0 ∧ rm.frames + 1 ≤ R.frames ∧ 60 + rm.locals ≤ R.locals ∧ cells ≤ R.cells ∧ slots ≤ R.slots) ∧ q_Ret g p l e R s m args below meth c cells slots Q cc rt P
/-- what an instruction's soundness says of its form -/
def q_Sp (sx : QX) (g : QG) (p : Program) (l : Launch) (e : Env) (R : Room) (s : State) (m : MethodId) (args : Array Value) (below : List Frame) (meth : Method) (c : Code) (cells slots : Nat) (Q : State → Prop) (nL : Nat) (rm : Room) (P : QR → Prop) (t : QS) : QN → Prop
  | none => True
  | some (.inl (b, u)) => b = true → q_ok u ∧ (q_W g p l e R s m args below meth c cells slots Q nL u → q_W g p l e R s m args below meth c cells slots Q nL t)
  | some (.inr (.inl (b, (u, v)))) => (b = true → q_ok u) ∧ (b = false → q_ok v) ∧ ((b = true → q_W g p l e R s m args below meth c cells slots Q nL u) → (b = false → q_W g p l e R s m args below meth c cells slots Q nL v) → q_W g p l e R s m args below meth c cells slots Q nL t)
  | some (.inr (.inr (.inl (b, r)))) => b = true → q_okR r ∧ (P r → q_W g p l e R s m args below meth c cells slots Q nL t)
  | some (.inr (.inr (.inr (.inl (b, (f, .inl k)))))) => b = true → q_okE f ∧ ∀ H', q_ok (k H') ∧ (q_Met g sx l rm f (none, H') → q_W g p l e R s m args below meth c cells slots Q nL (k H') → q_W g p l e R s m args below meth c cells slots Q nL t)
  | some (.inr (.inr (.inr (.inl (b, (f, .inr (.inl k))))))) => b = true → q_okE f ∧ ∀ x H', q_ok (k x H') ∧ (q_Met g sx l rm f (some (.inl x), H') → q_W g p l e R s m args below meth c cells slots Q nL (k x H') → q_W g p l e R s m args below meth c cells slots Q nL t)
  | some (.inr (.inr (.inr (.inl (b, (f, .inr (.inr (k0, k5)))))))) => b = true → q_okE f ∧ (∀ y H', q_ok (k0 H') ∧ (q_Met g sx l rm f (some (.inr (.inr (0, y))), H') → q_W g p l e R s m args below meth c cells slots Q nL (k0 H') → q_W g p l e R s m args below meth c cells slots Q nL t)) ∧ (∀ q H', (q_vd (.inr (.inr (5, q))) → q_ok (k5 q H')) ∧ (q_Met g sx l rm f (some (.inr (.inr (5, q))), H') → (q_vd (.inr (.inr (5, q))) → q_W g p l e R s m args below meth c cells slots Q nL (k5 q H')) → q_W g p l e R s m args below meth c cells slots Q nL t))
  | some (.inr (.inr (.inr (.inr (x, (l9, d)))))) => q_ok (q_pick x d l9) ∧ (q_W g p l e R s m args below meth c cells slots Q nL (q_pick x d l9) → q_W g p l e R s m args below meth c cells slots Q nL t)
def q_Snd (sx : QX) (own : String) (cc : ByteArray) (nL : Nat) (rt : Option FieldType) (pc : Nat) (o : QO) : Prop :=
  ∀ (g : QG) (p : Program) (l : Launch) (e : Env) (R : Room) (s : State) (m : MethodId) (args : Array Value) (below : List Frame) (meth : Method) (c : Code) (cells slots : Nat) (Q : State → Prop) (rm : Room) (P : QR → Prop), q_Cx sx g p l e R s m args below meth c cells slots Q own cc nL rt rm P → ∀ (ls : QL) (st : List QV) (H : QH), q_ok (pc, (ls, (st, H))) → q_Sp sx g p l e R s m args below meth c cells slots Q nL rm P (pc, (ls, (st, H))) (o ls st H)
end
section
def o_k (x : Int32) (nx : Nat) : QO := fun ls st H => some (.inl (true, (nx, (ls, (.inl x :: st, H)))))
def o_kl (x : Int64) (nx : Nat) : QO := fun ls st H => some (.inl (true, (nx, (ls, (.inr (.inl x) :: st, H)))))
def o_null (nx : Nat) : QO := fun ls st H => some (.inl (true, (nx, (ls, (.inr (.inr (0, 0)) :: st, H)))))
theorem s_iconst {sx : QX} {own : String} {cc : ByteArray} {nL : Nat} {rt : Option FieldType} {pc : Nat} {x : Int32} {n : Int} (hd : decode cc pc = .ok (.iconst n, 1)) (hv : Int32.ofInt n = x) : q_Snd sx own cc nL rt pc (o_k x (pc + 1)) := by
  intro g p l e R s m args below meth c cells slots Q rm P hC ls st H hok
  obtain ⟨hx, hb, hml, hown, hts, hK, hX, hbl, hN, hJ, hR, hret⟩ := hC
  exact fun _ => ⟨⟨hok.1, q_okS_cons (q_vI _) hok.2⟩, fun k Hh locs lsA hl hP hS => lv_iconst hx hb hd hv (k Hh locs lsA hl hP hS)⟩
theorem s_bipush {sx : QX} {own : String} {cc : ByteArray} {nL : Nat} {rt : Option FieldType} {pc : Nat} {x : Int32} {n : Int} (hd : decode cc pc = .ok (.bipush n, 2)) (hv : (Int8.ofInt n).toInt32 = x) : q_Snd sx own cc nL rt pc (o_k x (pc + 2)) := by
  intro g p l e R s m args below meth c cells slots Q rm P hC ls st H hok
  obtain ⟨hx, hb, hml, hown, hts, hK, hX, hbl, hN, hJ, hR, hret⟩ := hC
  exact fun _ => ⟨⟨hok.1, q_okS_cons (q_vI _) hok.2⟩, fun k Hh locs lsA hl hP hS => lv_bipush hx hb hd hv (k Hh locs lsA hl hP hS)⟩
theorem s_sipush {sx : QX} {own : String} {cc : ByteArray} {nL : Nat} {rt : Option FieldType} {pc : Nat} {x : Int32} {n : Int} (hd : decode cc pc = .ok (.sipush n, 3)) (hv : (Int16.ofInt n).toInt32 = x) : q_Snd sx own cc nL rt pc (o_k x (pc + 3)) := by
  intro g p l e R s m args below meth c cells slots Q rm P hC ls st H hok
  obtain ⟨hx, hb, hml, hown, hts, hK, hX, hbl, hN, hJ, hR, hret⟩ := hC
  exact fun _ => ⟨⟨hok.1, q_okS_cons (q_vI _) hok.2⟩, fun k Hh locs lsA hl hP hS => lv_sipush hx hb hd hv (k Hh locs lsA hl hP hS)⟩
theorem s_ldc {sx : QX} {own : String} {cc : ByteArray} {nL : Nat} {rt : Option FieldType} {pc : Nat} {x : Int32} {i : Nat} (hd : decode cc pc = .ok (.ldc i, 2)) (hw : Cond.constant own i x ∈ q_tw) : q_Snd sx own cc nL rt pc (o_k x (pc + 2)) := by
  intro g p l e R s m args below meth c cells slots Q rm P hC ls st H hok
  obtain ⟨hx, hb, hml, hown, hts, hK, hX, hbl, hN, hJ, hR, hret⟩ := hC
  exact fun _ => ⟨⟨hok.1, q_okS_cons (q_vI _) hok.2⟩, fun k Hh locs lsA hl hP hS => lv_ldc hx hb hown (hts _ hw) hd (k Hh locs lsA hl hP hS)⟩
theorem s_ldcw {sx : QX} {own : String} {cc : ByteArray} {nL : Nat} {rt : Option FieldType} {pc : Nat} {x : Int32} {i : Nat} (hd : decode cc pc = .ok (.ldc_w i, 3)) (hw : Cond.constant own i x ∈ q_tw) : q_Snd sx own cc nL rt pc (o_k x (pc + 3)) := by
  intro g p l e R s m args below meth c cells slots Q rm P hC ls st H hok
  obtain ⟨hx, hb, hml, hown, hts, hK, hX, hbl, hN, hJ, hR, hret⟩ := hC
  exact fun _ => ⟨⟨hok.1, q_okS_cons (q_vI _) hok.2⟩, fun k Hh locs lsA hl hP hS => lv_ldcw hx hb hown (hts _ hw) hd (k Hh locs lsA hl hP hS)⟩
theorem s_lconst {sx : QX} {own : String} {cc : ByteArray} {nL : Nat} {rt : Option FieldType} {pc : Nat} {x : Int64} {n : Fin 2} (hd : decode cc pc = .ok (.lconst n, 1)) (hv : Int64.ofNat (n : Nat) = x) : q_Snd sx own cc nL rt pc (o_kl x (pc + 1)) := by
  intro g p l e R s m args below meth c cells slots Q rm P hC ls st H hok
  obtain ⟨hx, hb, hml, hown, hts, hK, hX, hbl, hN, hJ, hR, hret⟩ := hC
  exact fun _ => ⟨⟨hok.1, q_okS_cons (q_vJ _) hok.2⟩, fun k Hh locs lsA hl hP hS => lv_lconst hx hb hd hv (k Hh locs lsA hl hP hS)⟩
theorem s_ldc2 {sx : QX} {own : String} {cc : ByteArray} {nL : Nat} {rt : Option FieldType} {pc : Nat} {x : Int64} {i : Nat} (hd : decode cc pc = .ok (.ldc2_w i, 3)) (hw : Cond.constantLong own i x ∈ q_tw) : q_Snd sx own cc nL rt pc (o_kl x (pc + 3)) := by
  intro g p l e R s m args below meth c cells slots Q rm P hC ls st H hok
  obtain ⟨hx, hb, hml, hown, hts, hK, hX, hbl, hN, hJ, hR, hret⟩ := hC
  exact fun _ => ⟨⟨hok.1, q_okS_cons (q_vJ _) hok.2⟩, fun k Hh locs lsA hl hP hS => lv_ldc2 hx hb hown (hts _ hw) hd (k Hh locs lsA hl hP hS)⟩
theorem s_null {sx : QX} {own : String} {cc : ByteArray} {nL : Nat} {rt : Option FieldType} {pc : Nat} (hd : decode cc pc = .ok (.aconst_null, 1)) : q_Snd sx own cc nL rt pc (o_null (pc + 1)) := by
  intro g p l e R s m args below meth c cells slots Q rm P hC ls st H hok
  obtain ⟨hx, hb, hml, hown, hts, hK, hX, hbl, hN, hJ, hR, hret⟩ := hC
  exact fun _ => ⟨⟨hok.1, q_okS_cons (trivial) hok.2⟩, fun k Hh locs lsA hl hP hS => lv_null hx hb hd (k Hh locs lsA hl hP hS)⟩
def o_il (i nx : Nat) : QO := fun ls st H => match q_lk ls i with
  | some (.inl x) => some (.inl (true, (nx, (ls, (.inl x :: st, H)))))
  | _ => none
def o_ll (i nx : Nat) : QO := fun ls st H => match q_lk ls i with
  | some (.inr (.inl x)) => some (.inl (true, (nx, (ls, (.inr (.inl x) :: st, H)))))
  | _ => none
def o_al (i nx : Nat) : QO := fun ls st H => match q_lk ls i with
  | some (.inr (.inr (k, p))) => some (.inl (true, (nx, (ls, (.inr (.inr (k, p)) :: st, H)))))
  | _ => none
theorem s_iload_n {sx : QX} {own : String} {cc : ByteArray} {nL : Nat} {rt : Option FieldType} {pc : Nat} {i : Nat} {k : Fin 4} (hd : decode cc pc = .ok (.iload_n k, 1)) (hi : (k : Nat) = i) : q_Snd sx own cc nL rt pc (o_il i (pc + 1)) := by
  intro g p l e R s m args below meth c cells slots Q rm P hC ls st H hok
  obtain ⟨hx, hb, hml, hown, hts, hK, hX, hbl, hN, hJ, hR, hret⟩ := hC
  unfold o_il
  split
  · rename_i x h
    exact fun _ => ⟨⟨hok.1, q_okS_cons (hok.1 _ (q_lk_mem h)) hok.2⟩, fun k Hh locs lsA hl hP hS => lv_iload_n hx hb hd hi (q_lk_at hl h) (k Hh locs lsA hl hP hS)⟩
  · exact trivial
theorem s_iload {sx : QX} {own : String} {cc : ByteArray} {nL : Nat} {rt : Option FieldType} {pc : Nat} {i : Nat} (hd : decode cc pc = .ok (.iload i, 2)) : q_Snd sx own cc nL rt pc (o_il i (pc + 2)) := by
  intro g p l e R s m args below meth c cells slots Q rm P hC ls st H hok
  obtain ⟨hx, hb, hml, hown, hts, hK, hX, hbl, hN, hJ, hR, hret⟩ := hC
  unfold o_il
  split
  · rename_i x h
    exact fun _ => ⟨⟨hok.1, q_okS_cons (hok.1 _ (q_lk_mem h)) hok.2⟩, fun k Hh locs lsA hl hP hS => lv_iload hx hb hd (q_lk_at hl h) (k Hh locs lsA hl hP hS)⟩
  · exact trivial
theorem s_lload_n {sx : QX} {own : String} {cc : ByteArray} {nL : Nat} {rt : Option FieldType} {pc : Nat} {i : Nat} {k : Fin 4} (hd : decode cc pc = .ok (.lload_n k, 1)) (hi : (k : Nat) = i) : q_Snd sx own cc nL rt pc (o_ll i (pc + 1)) := by
  intro g p l e R s m args below meth c cells slots Q rm P hC ls st H hok
  obtain ⟨hx, hb, hml, hown, hts, hK, hX, hbl, hN, hJ, hR, hret⟩ := hC
  unfold o_ll
  split
  · rename_i x h
    exact fun _ => ⟨⟨hok.1, q_okS_cons (hok.1 _ (q_lk_mem h)) hok.2⟩, fun k Hh locs lsA hl hP hS => lv_lload_n hx hb hd hi (q_lk_at hl h) (k Hh locs lsA hl hP hS)⟩
  · exact trivial
theorem s_lload {sx : QX} {own : String} {cc : ByteArray} {nL : Nat} {rt : Option FieldType} {pc : Nat} {i : Nat} (hd : decode cc pc = .ok (.lload i, 2)) : q_Snd sx own cc nL rt pc (o_ll i (pc + 2)) := by
  intro g p l e R s m args below meth c cells slots Q rm P hC ls st H hok
  obtain ⟨hx, hb, hml, hown, hts, hK, hX, hbl, hN, hJ, hR, hret⟩ := hC
  unfold o_ll
  split
  · rename_i x h
    exact fun _ => ⟨⟨hok.1, q_okS_cons (hok.1 _ (q_lk_mem h)) hok.2⟩, fun k Hh locs lsA hl hP hS => lv_lload hx hb hd (q_lk_at hl h) (k Hh locs lsA hl hP hS)⟩
  · exact trivial
theorem s_aload_n {sx : QX} {own : String} {cc : ByteArray} {nL : Nat} {rt : Option FieldType} {pc : Nat} {i : Nat} {k : Fin 4} (hd : decode cc pc = .ok (.aload_n k, 1)) (hi : (k : Nat) = i) : q_Snd sx own cc nL rt pc (o_al i (pc + 1)) := by
  intro g p l e R s m args below meth c cells slots Q rm P hC ls st H hok
  obtain ⟨hx, hb, hml, hown, hts, hK, hX, hbl, hN, hJ, hR, hret⟩ := hC
  unfold o_al
  split
  · rename_i k p h
    refine fun _ => ⟨⟨hok.1, q_okS_cons (hok.1 _ (q_lk_mem h)) hok.2⟩, fun kk Hh locs lsA hl hP hS => ?_⟩
    cases k with
    | zero => exact lv_aload_nN hx hb hd hi (q_lk_at hl h) (kk Hh locs lsA hl hP hS)
    | succ k => exact lv_aload_n hx hb hd hi (q_lk_at hl h) (kk Hh locs lsA hl hP hS)
  · exact trivial
theorem s_aload {sx : QX} {own : String} {cc : ByteArray} {nL : Nat} {rt : Option FieldType} {pc : Nat} {i : Nat} (hd : decode cc pc = .ok (.aload i, 2)) : q_Snd sx own cc nL rt pc (o_al i (pc + 2)) := by
  intro g p l e R s m args below meth c cells slots Q rm P hC ls st H hok
  obtain ⟨hx, hb, hml, hown, hts, hK, hX, hbl, hN, hJ, hR, hret⟩ := hC
  unfold o_al
  split
  · rename_i k p h
    refine fun _ => ⟨⟨hok.1, q_okS_cons (hok.1 _ (q_lk_mem h)) hok.2⟩, fun kk Hh locs lsA hl hP hS => ?_⟩
    cases k with
    | zero => exact lv_aloadN hx hb hd (q_lk_at hl h) (kk Hh locs lsA hl hP hS)
    | succ k => exact lv_aload hx hb hd (q_lk_at hl h) (kk Hh locs lsA hl hP hS)
  · exact trivial
def o_is (i nx : Nat) : QO := fun ls st H => match st with
  | .inl x :: st => some (.inl (true, (nx, (q_st i (.inl x) ls, (st, H)))))
  | _ => none
def o_as (i nx : Nat) : QO := fun ls st H => match st with
  | .inr (.inr (k, p)) :: st => some (.inl (true, (nx, (q_st i (.inr (.inr (k, p))) ls, (st, H)))))
  | _ => none
def o_ls (i nx : Nat) : QO := fun ls st H => match st with
  | .inr (.inl x) :: st => some (.inl (true, (nx, (q_st2 i (.inr (.inl x)) ls, (st, H)))))
  | _ => none
def o_inc (i : Nat) (n : Int32) (nx : Nat) : QO := fun ls st H => match q_lk ls i with
  | some (.inl x) => some (.inl (true, (nx, (q_st i (.inl (x + n)) ls, (st, H)))))
  | _ => none
theorem s_istore_n {sx : QX} {own : String} {cc : ByteArray} {nL : Nat} {rt : Option FieldType} {pc : Nat} {i : Nat} {k : Fin 4} (hd : decode cc pc = .ok (.istore_n k, 1)) (hi : (k : Nat) = i) (hn : i < nL) : q_Snd sx own cc nL rt pc (o_is i (pc + 1)) := by
  intro g p l e R s m args below meth c cells slots Q rm P hC ls st H hok
  obtain ⟨hx, hb, hml, hown, hts, hK, hX, hbl, hN, hJ, hR, hret⟩ := hC
  unfold o_is
  split
  · rename_i x st
    exact fun _ => ⟨⟨q_okL_in (q_okS_hd hok.2) hok.1, q_okS_tl hok.2⟩, fun k Hh locs lsA hl hP hS => lv_istore_n hx hb hd hi hl hn rfl (fun ls' hl' => k Hh locs ls' (q_st_has hl') hP hS)⟩
  · exact trivial
theorem s_istore {sx : QX} {own : String} {cc : ByteArray} {nL : Nat} {rt : Option FieldType} {pc : Nat} {i : Nat} (hd : decode cc pc = .ok (.istore i, 2)) (hn : i < nL) : q_Snd sx own cc nL rt pc (o_is i (pc + 2)) := by
  intro g p l e R s m args below meth c cells slots Q rm P hC ls st H hok
  obtain ⟨hx, hb, hml, hown, hts, hK, hX, hbl, hN, hJ, hR, hret⟩ := hC
  unfold o_is
  split
  · rename_i x st
    exact fun _ => ⟨⟨q_okL_in (q_okS_hd hok.2) hok.1, q_okS_tl hok.2⟩, fun k Hh locs lsA hl hP hS => lv_istore hx hb hd hl hn rfl (fun ls' hl' => k Hh locs ls' (q_st_has hl') hP hS)⟩
  · exact trivial
theorem s_lstore_n {sx : QX} {own : String} {cc : ByteArray} {nL : Nat} {rt : Option FieldType} {pc : Nat} {i : Nat} {k : Fin 4} (hd : decode cc pc = .ok (.lstore_n k, 1)) (hi : (k : Nat) = i) (hn : i + 1 < nL) : q_Snd sx own cc nL rt pc (o_ls i (pc + 1)) := by
  intro g p l e R s m args below meth c cells slots Q rm P hC ls st H hok
  obtain ⟨hx, hb, hml, hown, hts, hK, hX, hbl, hN, hJ, hR, hret⟩ := hC
  unfold o_ls
  split
  · rename_i x st
    exact fun _ => ⟨⟨q_okL_in2 (q_okS_hd hok.2) hok.1, q_okS_tl hok.2⟩, fun k Hh locs lsA hl hP hS => lv_lstore_n hx hb hd hi hl hn rfl (fun ls' hl' => k Hh locs ls' (q_st2_has hl') hP hS)⟩
  · exact trivial
theorem s_lstore {sx : QX} {own : String} {cc : ByteArray} {nL : Nat} {rt : Option FieldType} {pc : Nat} {i : Nat} (hd : decode cc pc = .ok (.lstore i, 2)) (hn : i + 1 < nL) : q_Snd sx own cc nL rt pc (o_ls i (pc + 2)) := by
  intro g p l e R s m args below meth c cells slots Q rm P hC ls st H hok
  obtain ⟨hx, hb, hml, hown, hts, hK, hX, hbl, hN, hJ, hR, hret⟩ := hC
  unfold o_ls
  split
  · rename_i x st
    exact fun _ => ⟨⟨q_okL_in2 (q_okS_hd hok.2) hok.1, q_okS_tl hok.2⟩, fun k Hh locs lsA hl hP hS => lv_lstore hx hb hd hl hn rfl (fun ls' hl' => k Hh locs ls' (q_st2_has hl') hP hS)⟩
  · exact trivial
theorem s_astore_n {sx : QX} {own : String} {cc : ByteArray} {nL : Nat} {rt : Option FieldType} {pc : Nat} {i : Nat} {k : Fin 4} (hd : decode cc pc = .ok (.astore_n k, 1)) (hi : (k : Nat) = i) (hn : i < nL) : q_Snd sx own cc nL rt pc (o_as i (pc + 1)) := by
  intro g p l e R s m args below meth c cells slots Q rm P hC ls st H hok
  obtain ⟨hx, hb, hml, hown, hts, hK, hX, hbl, hN, hJ, hR, hret⟩ := hC
  unfold o_as
  split
  · rename_i k p st
    refine fun _ => ⟨⟨q_okL_in (q_okS_hd hok.2) hok.1, q_okS_tl hok.2⟩, fun kk Hh locs lsA hl hP hS => ?_⟩
    cases k with
    | zero => exact lv_astore_nN hx hb hd hi hl hn rfl (fun ls' hl' => kk Hh locs ls' (q_st_has (v := .inr (.inr (0, p))) hl') hP hS)
    | succ k => exact lv_astore_n hx hb hd hi hl hn rfl (fun ls' hl' => kk Hh locs ls' (q_st_has (v := .inr (.inr (k + 1, p))) hl') hP hS)
  · exact trivial
theorem s_astore {sx : QX} {own : String} {cc : ByteArray} {nL : Nat} {rt : Option FieldType} {pc : Nat} {i : Nat} (hd : decode cc pc = .ok (.astore i, 2)) (hn : i < nL) : q_Snd sx own cc nL rt pc (o_as i (pc + 2)) := by
  intro g p l e R s m args below meth c cells slots Q rm P hC ls st H hok
  obtain ⟨hx, hb, hml, hown, hts, hK, hX, hbl, hN, hJ, hR, hret⟩ := hC
  unfold o_as
  split
  · rename_i k p st
    refine fun _ => ⟨⟨q_okL_in (q_okS_hd hok.2) hok.1, q_okS_tl hok.2⟩, fun kk Hh locs lsA hl hP hS => ?_⟩
    cases k with
    | zero => exact lv_astoreN hx hb hd hl hn rfl (fun ls' hl' => kk Hh locs ls' (q_st_has (v := .inr (.inr (0, p))) hl') hP hS)
    | succ k => exact lv_astore hx hb hd hl hn rfl (fun ls' hl' => kk Hh locs ls' (q_st_has (v := .inr (.inr (k + 1, p))) hl') hP hS)
  · exact trivial
theorem s_iinc {sx : QX} {own : String} {cc : ByteArray} {nL : Nat} {rt : Option FieldType} {pc : Nat} {i : Nat} {n : Int} {x : Int32} (hd : decode cc pc = .ok (.iinc i n, 3)) (hv : Int32.ofInt n = x) (hn : i < nL) : q_Snd sx own cc nL rt pc (o_inc i x (pc + 3)) := by
  intro g p l e R s m args below meth c cells slots Q rm P hC ls st H hok
  obtain ⟨hx, hb, hml, hown, hts, hK, hX, hbl, hN, hJ, hR, hret⟩ := hC
  subst hv
  unfold o_inc
  split
  · rename_i x h
    refine fun _ => ⟨⟨q_okL_in (q_vI _) hok.1, hok.2⟩, fun kk Hh locs lsA hl hP hS => ?_⟩
    obtain ⟨k, hk⟩ := List.getElem?_of_mem (List.mem_map.mpr ⟨(i, .inl x), q_lk_mem h, rfl⟩ : (i, Value.int x) ∈ ls.map (q_cl g))
    exact lv_iinc hx hb hd hl hk rfl hn rfl (fun ls' hl' => kk Hh locs ls' (q_st_has (v := .inl (x + Int32.ofInt n)) hl') hP hS)
  · exact trivial
def o_b (f : Int32 → Int32 → Int32) (nx : Nat) : QO := fun ls st H => match st with
  | .inl y :: .inl x :: st => some (.inl (true, (nx, (ls, (.inl (f x y) :: st, H)))))
  | _ => none
def o_bz (f : Int32 → Int32 → Int32) (nx : Nat) : QO := fun ls st H => match st with
  | .inl y :: .inl x :: st => some (.inl (!(decide (y = 0)), (nx, (ls, (.inl (f x y) :: st, H)))))
  | _ => none
def o_u (f : Int32 → Int32) (nx : Nat) : QO := fun ls st H => match st with
  | .inl x :: st => some (.inl (true, (nx, (ls, (.inl (f x) :: st, H)))))
  | _ => none
def o_lb (f : Int64 → Int64 → Int64) (nx : Nat) : QO := fun ls st H => match st with
  | .inr (.inl y) :: .inr (.inl x) :: st => some (.inl (true, (nx, (ls, (.inr (.inl (f x y)) :: st, H)))))
  | _ => none
def o_lbz (f : Int64 → Int64 → Int64) (nx : Nat) : QO := fun ls st H => match st with
  | .inr (.inl y) :: .inr (.inl x) :: st => some (.inl (!(decide (y = 0)), (nx, (ls, (.inr (.inl (f x y)) :: st, H)))))
  | _ => none
def o_lcmp (nx : Nat) : QO := fun ls st H => match st with
  | .inr (.inl y) :: .inr (.inl x) :: st => some (.inl (true, (nx, (ls, (.inl (lg_cmp x y) :: st, H)))))
  | _ => none
def o_i2l (nx : Nat) : QO := fun ls st H => match st with
  | .inl x :: st => some (.inl (true, (nx, (ls, (.inr (.inl x.toInt64) :: st, H)))))
  | _ => none
def o_l2i (nx : Nat) : QO := fun ls st H => match st with
  | .inr (.inl x) :: st => some (.inl (true, (nx, (ls, (.inl x.toInt32 :: st, H)))))
  | _ => none
theorem s_iadd {sx : QX} {own : String} {cc : ByteArray} {nL : Nat} {rt : Option FieldType} {pc : Nat} (hd : decode cc pc = .ok (.iadd, 1)) : q_Snd sx own cc nL rt pc (o_b (fun x y => x + y) (pc + 1)) := by
  intro g p l e R s m args below meth c cells slots Q rm P hC ls st H hok
  obtain ⟨hx, hb, hml, hown, hts, hK, hX, hbl, hN, hJ, hR, hret⟩ := hC
  unfold o_b
  split
  · rename_i y x st
    exact fun _ => ⟨⟨hok.1, q_okS_cons (q_vI _) (q_okS_tl (q_okS_tl hok.2))⟩, fun k Hh locs lsA hl hP hS => lv_iadd hx hb hd (k Hh locs lsA hl hP hS)⟩
  · exact trivial
theorem s_isub {sx : QX} {own : String} {cc : ByteArray} {nL : Nat} {rt : Option FieldType} {pc : Nat} (hd : decode cc pc = .ok (.isub, 1)) : q_Snd sx own cc nL rt pc (o_b (fun x y => x - y) (pc + 1)) := by
  intro g p l e R s m args below meth c cells slots Q rm P hC ls st H hok
  obtain ⟨hx, hb, hml, hown, hts, hK, hX, hbl, hN, hJ, hR, hret⟩ := hC
  unfold o_b
  split
  · rename_i y x st
    exact fun _ => ⟨⟨hok.1, q_okS_cons (q_vI _) (q_okS_tl (q_okS_tl hok.2))⟩, fun k Hh locs lsA hl hP hS => lv_isub hx hb hd (k Hh locs lsA hl hP hS)⟩
  · exact trivial
theorem s_imul {sx : QX} {own : String} {cc : ByteArray} {nL : Nat} {rt : Option FieldType} {pc : Nat} (hd : decode cc pc = .ok (.imul, 1)) : q_Snd sx own cc nL rt pc (o_b (fun x y => x * y) (pc + 1)) := by
  intro g p l e R s m args below meth c cells slots Q rm P hC ls st H hok
  obtain ⟨hx, hb, hml, hown, hts, hK, hX, hbl, hN, hJ, hR, hret⟩ := hC
  unfold o_b
  split
  · rename_i y x st
    exact fun _ => ⟨⟨hok.1, q_okS_cons (q_vI _) (q_okS_tl (q_okS_tl hok.2))⟩, fun k Hh locs lsA hl hP hS => lv_imul hx hb hd (k Hh locs lsA hl hP hS)⟩
  · exact trivial
theorem s_iand {sx : QX} {own : String} {cc : ByteArray} {nL : Nat} {rt : Option FieldType} {pc : Nat} (hd : decode cc pc = .ok (.iand, 1)) : q_Snd sx own cc nL rt pc (o_b (fun x y => x &&& y) (pc + 1)) := by
  intro g p l e R s m args below meth c cells slots Q rm P hC ls st H hok
  obtain ⟨hx, hb, hml, hown, hts, hK, hX, hbl, hN, hJ, hR, hret⟩ := hC
  unfold o_b
  split
  · rename_i y x st
    exact fun _ => ⟨⟨hok.1, q_okS_cons (q_vI _) (q_okS_tl (q_okS_tl hok.2))⟩, fun k Hh locs lsA hl hP hS => lv_iand hx hb hd (k Hh locs lsA hl hP hS)⟩
  · exact trivial
theorem s_ior {sx : QX} {own : String} {cc : ByteArray} {nL : Nat} {rt : Option FieldType} {pc : Nat} (hd : decode cc pc = .ok (.ior, 1)) : q_Snd sx own cc nL rt pc (o_b (fun x y => x ||| y) (pc + 1)) := by
  intro g p l e R s m args below meth c cells slots Q rm P hC ls st H hok
  obtain ⟨hx, hb, hml, hown, hts, hK, hX, hbl, hN, hJ, hR, hret⟩ := hC
  unfold o_b
  split
  · rename_i y x st
    exact fun _ => ⟨⟨hok.1, q_okS_cons (q_vI _) (q_okS_tl (q_okS_tl hok.2))⟩, fun k Hh locs lsA hl hP hS => lv_ior hx hb hd (k Hh locs lsA hl hP hS)⟩
  · exact trivial
theorem s_ishl {sx : QX} {own : String} {cc : ByteArray} {nL : Nat} {rt : Option FieldType} {pc : Nat} (hd : decode cc pc = .ok (.ishl, 1)) : q_Snd sx own cc nL rt pc (o_b (fun x y => x <<< (y &&& 31)) (pc + 1)) := by
  intro g p l e R s m args below meth c cells slots Q rm P hC ls st H hok
  obtain ⟨hx, hb, hml, hown, hts, hK, hX, hbl, hN, hJ, hR, hret⟩ := hC
  unfold o_b
  split
  · rename_i y x st
    exact fun _ => ⟨⟨hok.1, q_okS_cons (q_vI _) (q_okS_tl (q_okS_tl hok.2))⟩, fun k Hh locs lsA hl hP hS => lv_ishl hx hb hd (k Hh locs lsA hl hP hS)⟩
  · exact trivial
theorem s_ishr {sx : QX} {own : String} {cc : ByteArray} {nL : Nat} {rt : Option FieldType} {pc : Nat} (hd : decode cc pc = .ok (.ishr, 1)) : q_Snd sx own cc nL rt pc (o_b (fun x y => x >>> (y &&& 31)) (pc + 1)) := by
  intro g p l e R s m args below meth c cells slots Q rm P hC ls st H hok
  obtain ⟨hx, hb, hml, hown, hts, hK, hX, hbl, hN, hJ, hR, hret⟩ := hC
  unfold o_b
  split
  · rename_i y x st
    exact fun _ => ⟨⟨hok.1, q_okS_cons (q_vI _) (q_okS_tl (q_okS_tl hok.2))⟩, fun k Hh locs lsA hl hP hS => lv_ishr hx hb hd (k Hh locs lsA hl hP hS)⟩
  · exact trivial
theorem s_iushr {sx : QX} {own : String} {cc : ByteArray} {nL : Nat} {rt : Option FieldType} {pc : Nat} (hd : decode cc pc = .ok (.iushr, 1)) : q_Snd sx own cc nL rt pc (o_b (fun x y => (x.toUInt32 >>> (y.toUInt32 &&& Int32.toUInt32 31)).toInt32) (pc + 1)) := by
  intro g p l e R s m args below meth c cells slots Q rm P hC ls st H hok
  obtain ⟨hx, hb, hml, hown, hts, hK, hX, hbl, hN, hJ, hR, hret⟩ := hC
  unfold o_b
  split
  · rename_i y x st
    exact fun _ => ⟨⟨hok.1, q_okS_cons (q_vI _) (q_okS_tl (q_okS_tl hok.2))⟩, fun k Hh locs lsA hl hP hS => lv_iushr hx hb hd rfl (k Hh locs lsA hl hP hS)⟩
  · exact trivial
theorem s_idiv {sx : QX} {own : String} {cc : ByteArray} {nL : Nat} {rt : Option FieldType} {pc : Nat} (hd : decode cc pc = .ok (.idiv, 1)) : q_Snd sx own cc nL rt pc (o_bz (fun x y => x / y) (pc + 1)) := by
  intro g p l e R s m args below meth c cells slots Q rm P hC ls st H hok
  obtain ⟨hx, hb, hml, hown, hts, hK, hX, hbl, hN, hJ, hR, hret⟩ := hC
  unfold o_bz
  split
  · rename_i y x st
    exact fun hg => ⟨⟨hok.1, q_okS_cons (q_vI _) (q_okS_tl (q_okS_tl hok.2))⟩, fun k Hh locs lsA hl hP hS => lv_idiv hx hb hd (by simpa using hg) (k Hh locs lsA hl hP hS)⟩
  · exact trivial
theorem s_irem {sx : QX} {own : String} {cc : ByteArray} {nL : Nat} {rt : Option FieldType} {pc : Nat} (hd : decode cc pc = .ok (.irem, 1)) : q_Snd sx own cc nL rt pc (o_bz (fun x y => x - x / y * y) (pc + 1)) := by
  intro g p l e R s m args below meth c cells slots Q rm P hC ls st H hok
  obtain ⟨hx, hb, hml, hown, hts, hK, hX, hbl, hN, hJ, hR, hret⟩ := hC
  unfold o_bz
  split
  · rename_i y x st
    exact fun hg => ⟨⟨hok.1, q_okS_cons (q_vI _) (q_okS_tl (q_okS_tl hok.2))⟩, fun k Hh locs lsA hl hP hS => lv_irem hx hb hd (by simpa using hg) (k Hh locs lsA hl hP hS)⟩
  · exact trivial
theorem s_ladd {sx : QX} {own : String} {cc : ByteArray} {nL : Nat} {rt : Option FieldType} {pc : Nat} (hd : decode cc pc = .ok (.ladd, 1)) : q_Snd sx own cc nL rt pc (o_lb (fun x y => x + y) (pc + 1)) := by
  intro g p l e R s m args below meth c cells slots Q rm P hC ls st H hok
  obtain ⟨hx, hb, hml, hown, hts, hK, hX, hbl, hN, hJ, hR, hret⟩ := hC
  unfold o_lb
  split
  · rename_i y x st
    exact fun _ => ⟨⟨hok.1, q_okS_cons (q_vJ _) (q_okS_tl (q_okS_tl hok.2))⟩, fun k Hh locs lsA hl hP hS => lv_ladd hx hb hd (k Hh locs lsA hl hP hS)⟩
  · exact trivial
theorem s_lsub {sx : QX} {own : String} {cc : ByteArray} {nL : Nat} {rt : Option FieldType} {pc : Nat} (hd : decode cc pc = .ok (.lsub, 1)) : q_Snd sx own cc nL rt pc (o_lb (fun x y => x - y) (pc + 1)) := by
  intro g p l e R s m args below meth c cells slots Q rm P hC ls st H hok
  obtain ⟨hx, hb, hml, hown, hts, hK, hX, hbl, hN, hJ, hR, hret⟩ := hC
  unfold o_lb
  split
  · rename_i y x st
    exact fun _ => ⟨⟨hok.1, q_okS_cons (q_vJ _) (q_okS_tl (q_okS_tl hok.2))⟩, fun k Hh locs lsA hl hP hS => lv_lsub hx hb hd (k Hh locs lsA hl hP hS)⟩
  · exact trivial
theorem s_lmul {sx : QX} {own : String} {cc : ByteArray} {nL : Nat} {rt : Option FieldType} {pc : Nat} (hd : decode cc pc = .ok (.lmul, 1)) : q_Snd sx own cc nL rt pc (o_lb (fun x y => x * y) (pc + 1)) := by
  intro g p l e R s m args below meth c cells slots Q rm P hC ls st H hok
  obtain ⟨hx, hb, hml, hown, hts, hK, hX, hbl, hN, hJ, hR, hret⟩ := hC
  unfold o_lb
  split
  · rename_i y x st
    exact fun _ => ⟨⟨hok.1, q_okS_cons (q_vJ _) (q_okS_tl (q_okS_tl hok.2))⟩, fun k Hh locs lsA hl hP hS => lv_lmul hx hb hd (k Hh locs lsA hl hP hS)⟩
  · exact trivial
theorem s_lrem {sx : QX} {own : String} {cc : ByteArray} {nL : Nat} {rt : Option FieldType} {pc : Nat} (hd : decode cc pc = .ok (.lrem, 1)) : q_Snd sx own cc nL rt pc (o_lbz (fun x y => x - x / y * y) (pc + 1)) := by
  intro g p l e R s m args below meth c cells slots Q rm P hC ls st H hok
  obtain ⟨hx, hb, hml, hown, hts, hK, hX, hbl, hN, hJ, hR, hret⟩ := hC
  unfold o_lbz
  split
  · rename_i y x st
    exact fun hg => ⟨⟨hok.1, q_okS_cons (q_vJ _) (q_okS_tl (q_okS_tl hok.2))⟩, fun k Hh locs lsA hl hP hS => lv_lrem hx hb hd (by simpa using hg) (k Hh locs lsA hl hP hS)⟩
  · exact trivial
theorem s_ineg {sx : QX} {own : String} {cc : ByteArray} {nL : Nat} {rt : Option FieldType} {pc : Nat} (hd : decode cc pc = .ok (.ineg, 1)) : q_Snd sx own cc nL rt pc (o_u (fun x => 0 - x) (pc + 1)) := by
  intro g p l e R s m args below meth c cells slots Q rm P hC ls st H hok
  obtain ⟨hx, hb, hml, hown, hts, hK, hX, hbl, hN, hJ, hR, hret⟩ := hC
  unfold o_u
  split
  · rename_i x st
    exact fun _ => ⟨⟨hok.1, q_okS_cons (q_vI _) (q_okS_tl hok.2)⟩, fun k Hh locs lsA hl hP hS => lv_ineg hx hb hd (k Hh locs lsA hl hP hS)⟩
  · exact trivial
theorem s_lcmp {sx : QX} {own : String} {cc : ByteArray} {nL : Nat} {rt : Option FieldType} {pc : Nat} (hd : decode cc pc = .ok (.lcmp, 1)) : q_Snd sx own cc nL rt pc (o_lcmp (pc + 1)) := by
  intro g p l e R s m args below meth c cells slots Q rm P hC ls st H hok
  obtain ⟨hx, hb, hml, hown, hts, hK, hX, hbl, hN, hJ, hR, hret⟩ := hC
  unfold o_lcmp
  split
  · rename_i y x st
    exact fun _ => ⟨⟨hok.1, q_okS_cons (q_vI _) (q_okS_tl (q_okS_tl hok.2))⟩, fun k Hh locs lsA hl hP hS => W.lcmp hx hb hd (k Hh locs lsA hl hP hS)⟩
  · exact trivial
theorem s_i2l {sx : QX} {own : String} {cc : ByteArray} {nL : Nat} {rt : Option FieldType} {pc : Nat} (hd : decode cc pc = .ok (.i2l, 1)) : q_Snd sx own cc nL rt pc (o_i2l (pc + 1)) := by
  intro g p l e R s m args below meth c cells slots Q rm P hC ls st H hok
  obtain ⟨hx, hb, hml, hown, hts, hK, hX, hbl, hN, hJ, hR, hret⟩ := hC
  unfold o_i2l
  split
  · rename_i x st
    exact fun _ => ⟨⟨hok.1, q_okS_cons (q_vJ _) (q_okS_tl hok.2)⟩, fun k Hh locs lsA hl hP hS => lv_i2l hx hb hd rfl (k Hh locs lsA hl hP hS)⟩
  · exact trivial
theorem s_l2i {sx : QX} {own : String} {cc : ByteArray} {nL : Nat} {rt : Option FieldType} {pc : Nat} (hd : decode cc pc = .ok (.l2i, 1)) : q_Snd sx own cc nL rt pc (o_l2i (pc + 1)) := by
  intro g p l e R s m args below meth c cells slots Q rm P hC ls st H hok
  obtain ⟨hx, hb, hml, hown, hts, hK, hX, hbl, hN, hJ, hR, hret⟩ := hC
  unfold o_l2i
  split
  · rename_i x st
    exact fun _ => ⟨⟨hok.1, q_okS_cons (q_vI _) (q_okS_tl hok.2)⟩, fun k Hh locs lsA hl hP hS => lv_l2i hx hb hd rfl (k Hh locs lsA hl hP hS)⟩
  · exact trivial
def o_dup (nx : Nat) : QO := fun ls st H => match st with
  | v :: st => some (.inl (!(q_big v), (nx, (ls, (v :: v :: st, H)))))
  | _ => none
def o_pop (nx : Nat) : QO := fun ls st H => match st with
  | v :: st => some (.inl (!(q_big v), (nx, (ls, (st, H)))))
  | _ => none
def o_dup2 (nx : Nat) : QO := fun ls st H => match st with
  | v :: w :: st => some (.inl (cond (q_big v) false (!(q_big w)), (nx, (ls, (v :: w :: v :: w :: st, H)))))
  | _ => none
theorem s_dup {sx : QX} {own : String} {cc : ByteArray} {nL : Nat} {rt : Option FieldType} {pc : Nat} (hd : decode cc pc = .ok (.dup, 1)) : q_Snd sx own cc nL rt pc (o_dup (pc + 1)) := by
  intro g p l e R s m args below meth c cells slots Q rm P hC ls st H hok
  obtain ⟨hx, hb, hml, hown, hts, hK, hX, hbl, hN, hJ, hR, hret⟩ := hC
  unfold o_dup
  split
  · rename_i v st
    exact fun hg => ⟨⟨hok.1, q_okS_cons (q_okS_hd hok.2) hok.2⟩, fun k Hh locs lsA hl hP hS => lv_dup hx hb hd (q_cat1 (by simpa using hg)) (k Hh locs lsA hl hP hS)⟩
  · exact trivial
theorem s_pop {sx : QX} {own : String} {cc : ByteArray} {nL : Nat} {rt : Option FieldType} {pc : Nat} (hd : decode cc pc = .ok (.pop, 1)) : q_Snd sx own cc nL rt pc (o_pop (pc + 1)) := by
  intro g p l e R s m args below meth c cells slots Q rm P hC ls st H hok
  obtain ⟨hx, hb, hml, hown, hts, hK, hX, hbl, hN, hJ, hR, hret⟩ := hC
  unfold o_pop
  split
  · rename_i v st
    exact fun hg => ⟨⟨hok.1, q_okS_tl hok.2⟩, fun k Hh locs lsA hl hP hS => lv_pop hx hb hd (q_cat1 (by simpa using hg)) (k Hh locs lsA hl hP hS)⟩
  · exact trivial
theorem s_dup2 {sx : QX} {own : String} {cc : ByteArray} {nL : Nat} {rt : Option FieldType} {pc : Nat} (hd : decode cc pc = .ok (.dup2, 1)) : q_Snd sx own cc nL rt pc (o_dup2 (pc + 1)) := by
  intro g p l e R s m args below meth c cells slots Q rm P hC ls st H hok
  obtain ⟨hx, hb, hml, hown, hts, hK, hX, hbl, hN, hJ, hR, hret⟩ := hC
  unfold o_dup2
  split
  · rename_i v w st
    intro hg
    have h1 : q_big v = false ∧ q_big w = false := by
      cases hv : q_big v <;> cases hw : q_big w <;> simp_all
    exact ⟨⟨hok.1, q_okS_cons (q_okS_hd hok.2) (q_okS_cons (q_okS_hd (q_okS_tl hok.2)) hok.2)⟩, fun k Hh locs lsA hl hP hS => lv_dup2_11 hx hb hd (q_cat1 h1.1) (q_cat1 h1.2) (k Hh locs lsA hl hP hS)⟩
  · exact trivial
def o_if (f : Int32 → Bool) (tg nx : Nat) : QO := fun ls st H => match st with
  | .inl x :: st => some (.inr (.inl (f x, ((tg, (ls, (st, H))), (nx, (ls, (st, H)))))))
  | _ => none
def o_ic (f : Int32 → Int32 → Bool) (tg nx : Nat) : QO := fun ls st H => match st with
  | .inl y :: .inl x :: st => some (.inr (.inl (f x y, ((tg, (ls, (st, H))), (nx, (ls, (st, H)))))))
  | _ => none
def o_goto (tg : Nat) : QO := fun ls st H => some (.inl (true, (tg, (ls, (st, H)))))
def o_ifnull (tg nx : Nat) : QO := fun ls st H => match st with
  | .inr (.inr (0, _)) :: st => some (.inl (true, (tg, (ls, (st, H)))))
  | .inr (.inr (_ + 1, _)) :: st => some (.inl (true, (nx, (ls, (st, H)))))
  | _ => none
theorem s_if_eq {sx : QX} {own : String} {cc : ByteArray} {nL : Nat} {rt : Option FieldType} {pc : Nat} {off : Int} {tg : Nat} (hd : decode cc pc = .ok (.ifCond .eq off, 3)) (ht : (pc : Int) + off = (tg : Int)) : q_Snd sx own cc nL rt pc (o_if (fun x => decide (x = 0)) tg (pc + 3)) := by
  intro g p l e R s m args below meth c cells slots Q rm P hC ls st H hok
  obtain ⟨hx, hb, hml, hown, hts, hK, hX, hbl, hN, hJ, hR, hret⟩ := hC
  unfold o_if
  split
  · rename_i x st
    refine ⟨fun _ => ⟨hok.1, q_okS_tl hok.2⟩, fun _ => ⟨hok.1, q_okS_tl hok.2⟩, fun k1 k2 Hh locs lsA hl hP hS => ?_⟩
    exact lv_if_eq hx hb hd ht (fun hc => k1 (decide_eq_true hc) Hh locs lsA hl hP hS) (fun hc => k2 (decide_eq_false hc) Hh locs lsA hl hP hS)
  · exact trivial
theorem s_ic_eq {sx : QX} {own : String} {cc : ByteArray} {nL : Nat} {rt : Option FieldType} {pc : Nat} {off : Int} {tg : Nat} (hd : decode cc pc = .ok (.if_icmp .eq off, 3)) (ht : (pc : Int) + off = (tg : Int)) : q_Snd sx own cc nL rt pc (o_ic (fun x y => decide (x = y)) tg (pc + 3)) := by
  intro g p l e R s m args below meth c cells slots Q rm P hC ls st H hok
  obtain ⟨hx, hb, hml, hown, hts, hK, hX, hbl, hN, hJ, hR, hret⟩ := hC
  unfold o_ic
  split
  · rename_i y x st
    refine ⟨fun _ => ⟨hok.1, q_okS_tl (q_okS_tl hok.2)⟩, fun _ => ⟨hok.1, q_okS_tl (q_okS_tl hok.2)⟩, fun k1 k2 Hh locs lsA hl hP hS => ?_⟩
    exact lv_icmp_eq hx hb hd ht (fun hc => k1 (decide_eq_true hc) Hh locs lsA hl hP hS) (fun hc => k2 (decide_eq_false hc) Hh locs lsA hl hP hS)
  · exact trivial
theorem s_if_ne {sx : QX} {own : String} {cc : ByteArray} {nL : Nat} {rt : Option FieldType} {pc : Nat} {off : Int} {tg : Nat} (hd : decode cc pc = .ok (.ifCond .ne off, 3)) (ht : (pc : Int) + off = (tg : Int)) : q_Snd sx own cc nL rt pc (o_if (fun x => decide (x ≠ 0)) tg (pc + 3)) := by
  intro g p l e R s m args below meth c cells slots Q rm P hC ls st H hok
  obtain ⟨hx, hb, hml, hown, hts, hK, hX, hbl, hN, hJ, hR, hret⟩ := hC
  unfold o_if
  split
  · rename_i x st
    refine ⟨fun _ => ⟨hok.1, q_okS_tl hok.2⟩, fun _ => ⟨hok.1, q_okS_tl hok.2⟩, fun k1 k2 Hh locs lsA hl hP hS => ?_⟩
    exact lv_if_ne hx hb hd ht (fun hc => k1 (decide_eq_true hc) Hh locs lsA hl hP hS) (fun hc => k2 (decide_eq_false (fun h => h hc)) Hh locs lsA hl hP hS)
  · exact trivial
theorem s_ic_ne {sx : QX} {own : String} {cc : ByteArray} {nL : Nat} {rt : Option FieldType} {pc : Nat} {off : Int} {tg : Nat} (hd : decode cc pc = .ok (.if_icmp .ne off, 3)) (ht : (pc : Int) + off = (tg : Int)) : q_Snd sx own cc nL rt pc (o_ic (fun x y => decide (x ≠ y)) tg (pc + 3)) := by
  intro g p l e R s m args below meth c cells slots Q rm P hC ls st H hok
  obtain ⟨hx, hb, hml, hown, hts, hK, hX, hbl, hN, hJ, hR, hret⟩ := hC
  unfold o_ic
  split
  · rename_i y x st
    refine ⟨fun _ => ⟨hok.1, q_okS_tl (q_okS_tl hok.2)⟩, fun _ => ⟨hok.1, q_okS_tl (q_okS_tl hok.2)⟩, fun k1 k2 Hh locs lsA hl hP hS => ?_⟩
    exact lv_icmp_ne hx hb hd ht (fun hc => k1 (decide_eq_true hc) Hh locs lsA hl hP hS) (fun hc => k2 (decide_eq_false (fun h => h hc)) Hh locs lsA hl hP hS)
  · exact trivial
theorem s_if_lt {sx : QX} {own : String} {cc : ByteArray} {nL : Nat} {rt : Option FieldType} {pc : Nat} {off : Int} {tg : Nat} (hd : decode cc pc = .ok (.ifCond .lt off, 3)) (ht : (pc : Int) + off = (tg : Int)) : q_Snd sx own cc nL rt pc (o_if (fun x => decide (x < 0)) tg (pc + 3)) := by
  intro g p l e R s m args below meth c cells slots Q rm P hC ls st H hok
  obtain ⟨hx, hb, hml, hown, hts, hK, hX, hbl, hN, hJ, hR, hret⟩ := hC
  unfold o_if
  split
  · rename_i x st
    refine ⟨fun _ => ⟨hok.1, q_okS_tl hok.2⟩, fun _ => ⟨hok.1, q_okS_tl hok.2⟩, fun k1 k2 Hh locs lsA hl hP hS => ?_⟩
    exact lv_if_lt hx hb hd ht (fun hc => k1 (decide_eq_true hc) Hh locs lsA hl hP hS) (fun hc => k2 (decide_eq_false hc) Hh locs lsA hl hP hS)
  · exact trivial
theorem s_ic_lt {sx : QX} {own : String} {cc : ByteArray} {nL : Nat} {rt : Option FieldType} {pc : Nat} {off : Int} {tg : Nat} (hd : decode cc pc = .ok (.if_icmp .lt off, 3)) (ht : (pc : Int) + off = (tg : Int)) : q_Snd sx own cc nL rt pc (o_ic (fun x y => decide (x < y)) tg (pc + 3)) := by
  intro g p l e R s m args below meth c cells slots Q rm P hC ls st H hok
  obtain ⟨hx, hb, hml, hown, hts, hK, hX, hbl, hN, hJ, hR, hret⟩ := hC
  unfold o_ic
  split
  · rename_i y x st
    refine ⟨fun _ => ⟨hok.1, q_okS_tl (q_okS_tl hok.2)⟩, fun _ => ⟨hok.1, q_okS_tl (q_okS_tl hok.2)⟩, fun k1 k2 Hh locs lsA hl hP hS => ?_⟩
    exact lv_icmp_lt hx hb hd ht (fun hc => k1 (decide_eq_true hc) Hh locs lsA hl hP hS) (fun hc => k2 (decide_eq_false hc) Hh locs lsA hl hP hS)
  · exact trivial
theorem s_if_ge {sx : QX} {own : String} {cc : ByteArray} {nL : Nat} {rt : Option FieldType} {pc : Nat} {off : Int} {tg : Nat} (hd : decode cc pc = .ok (.ifCond .ge off, 3)) (ht : (pc : Int) + off = (tg : Int)) : q_Snd sx own cc nL rt pc (o_if (fun x => decide (0 ≤ x)) tg (pc + 3)) := by
  intro g p l e R s m args below meth c cells slots Q rm P hC ls st H hok
  obtain ⟨hx, hb, hml, hown, hts, hK, hX, hbl, hN, hJ, hR, hret⟩ := hC
  unfold o_if
  split
  · rename_i x st
    refine ⟨fun _ => ⟨hok.1, q_okS_tl hok.2⟩, fun _ => ⟨hok.1, q_okS_tl hok.2⟩, fun k1 k2 Hh locs lsA hl hP hS => ?_⟩
    exact lv_if_ge hx hb hd ht (fun hc => k1 (decide_eq_true hc) Hh locs lsA hl hP hS) (fun hc => k2 (decide_eq_false hc) Hh locs lsA hl hP hS)
  · exact trivial
theorem s_ic_ge {sx : QX} {own : String} {cc : ByteArray} {nL : Nat} {rt : Option FieldType} {pc : Nat} {off : Int} {tg : Nat} (hd : decode cc pc = .ok (.if_icmp .ge off, 3)) (ht : (pc : Int) + off = (tg : Int)) : q_Snd sx own cc nL rt pc (o_ic (fun x y => decide (y ≤ x)) tg (pc + 3)) := by
  intro g p l e R s m args below meth c cells slots Q rm P hC ls st H hok
  obtain ⟨hx, hb, hml, hown, hts, hK, hX, hbl, hN, hJ, hR, hret⟩ := hC
  unfold o_ic
  split
  · rename_i y x st
    refine ⟨fun _ => ⟨hok.1, q_okS_tl (q_okS_tl hok.2)⟩, fun _ => ⟨hok.1, q_okS_tl (q_okS_tl hok.2)⟩, fun k1 k2 Hh locs lsA hl hP hS => ?_⟩
    exact lv_icmp_ge hx hb hd ht (fun hc => k1 (decide_eq_true hc) Hh locs lsA hl hP hS) (fun hc => k2 (decide_eq_false hc) Hh locs lsA hl hP hS)
  · exact trivial
theorem s_if_gt {sx : QX} {own : String} {cc : ByteArray} {nL : Nat} {rt : Option FieldType} {pc : Nat} {off : Int} {tg : Nat} (hd : decode cc pc = .ok (.ifCond .gt off, 3)) (ht : (pc : Int) + off = (tg : Int)) : q_Snd sx own cc nL rt pc (o_if (fun x => decide (0 < x)) tg (pc + 3)) := by
  intro g p l e R s m args below meth c cells slots Q rm P hC ls st H hok
  obtain ⟨hx, hb, hml, hown, hts, hK, hX, hbl, hN, hJ, hR, hret⟩ := hC
  unfold o_if
  split
  · rename_i x st
    refine ⟨fun _ => ⟨hok.1, q_okS_tl hok.2⟩, fun _ => ⟨hok.1, q_okS_tl hok.2⟩, fun k1 k2 Hh locs lsA hl hP hS => ?_⟩
    exact lv_if_gt hx hb hd ht (fun hc => k1 (decide_eq_true hc) Hh locs lsA hl hP hS) (fun hc => k2 (decide_eq_false hc) Hh locs lsA hl hP hS)
  · exact trivial
theorem s_ic_gt {sx : QX} {own : String} {cc : ByteArray} {nL : Nat} {rt : Option FieldType} {pc : Nat} {off : Int} {tg : Nat} (hd : decode cc pc = .ok (.if_icmp .gt off, 3)) (ht : (pc : Int) + off = (tg : Int)) : q_Snd sx own cc nL rt pc (o_ic (fun x y => decide (y < x)) tg (pc + 3)) := by
  intro g p l e R s m args below meth c cells slots Q rm P hC ls st H hok
  obtain ⟨hx, hb, hml, hown, hts, hK, hX, hbl, hN, hJ, hR, hret⟩ := hC
  unfold o_ic
  split
  · rename_i y x st
    refine ⟨fun _ => ⟨hok.1, q_okS_tl (q_okS_tl hok.2)⟩, fun _ => ⟨hok.1, q_okS_tl (q_okS_tl hok.2)⟩, fun k1 k2 Hh locs lsA hl hP hS => ?_⟩
    exact lv_icmp_gt hx hb hd ht (fun hc => k1 (decide_eq_true hc) Hh locs lsA hl hP hS) (fun hc => k2 (decide_eq_false hc) Hh locs lsA hl hP hS)
  · exact trivial
theorem s_if_le {sx : QX} {own : String} {cc : ByteArray} {nL : Nat} {rt : Option FieldType} {pc : Nat} {off : Int} {tg : Nat} (hd : decode cc pc = .ok (.ifCond .le off, 3)) (ht : (pc : Int) + off = (tg : Int)) : q_Snd sx own cc nL rt pc (o_if (fun x => decide (x ≤ 0)) tg (pc + 3)) := by
  intro g p l e R s m args below meth c cells slots Q rm P hC ls st H hok
  obtain ⟨hx, hb, hml, hown, hts, hK, hX, hbl, hN, hJ, hR, hret⟩ := hC
  unfold o_if
  split
  · rename_i x st
    refine ⟨fun _ => ⟨hok.1, q_okS_tl hok.2⟩, fun _ => ⟨hok.1, q_okS_tl hok.2⟩, fun k1 k2 Hh locs lsA hl hP hS => ?_⟩
    exact lv_if_le hx hb hd ht (fun hc => k1 (decide_eq_true hc) Hh locs lsA hl hP hS) (fun hc => k2 (decide_eq_false hc) Hh locs lsA hl hP hS)
  · exact trivial
theorem s_ic_le {sx : QX} {own : String} {cc : ByteArray} {nL : Nat} {rt : Option FieldType} {pc : Nat} {off : Int} {tg : Nat} (hd : decode cc pc = .ok (.if_icmp .le off, 3)) (ht : (pc : Int) + off = (tg : Int)) : q_Snd sx own cc nL rt pc (o_ic (fun x y => decide (x ≤ y)) tg (pc + 3)) := by
  intro g p l e R s m args below meth c cells slots Q rm P hC ls st H hok
  obtain ⟨hx, hb, hml, hown, hts, hK, hX, hbl, hN, hJ, hR, hret⟩ := hC
  unfold o_ic
  split
  · rename_i y x st
    refine ⟨fun _ => ⟨hok.1, q_okS_tl (q_okS_tl hok.2)⟩, fun _ => ⟨hok.1, q_okS_tl (q_okS_tl hok.2)⟩, fun k1 k2 Hh locs lsA hl hP hS => ?_⟩
    exact lv_icmp_le hx hb hd ht (fun hc => k1 (decide_eq_true hc) Hh locs lsA hl hP hS) (fun hc => k2 (decide_eq_false hc) Hh locs lsA hl hP hS)
  · exact trivial
theorem s_goto {sx : QX} {own : String} {cc : ByteArray} {nL : Nat} {rt : Option FieldType} {pc : Nat} {off : Int} {tg : Nat} (hd : decode cc pc = .ok (.goto off, 3)) (ht : (pc : Int) + off = (tg : Int)) : q_Snd sx own cc nL rt pc (o_goto tg) := by
  intro g p l e R s m args below meth c cells slots Q rm P hC ls st H hok
  obtain ⟨hx, hb, hml, hown, hts, hK, hX, hbl, hN, hJ, hR, hret⟩ := hC
  exact fun _ => ⟨⟨hok.1, hok.2⟩, fun k Hh locs lsA hl hP hS => lv_goto hx hb hd ht (k Hh locs lsA hl hP hS)⟩
theorem s_ifnull {sx : QX} {own : String} {cc : ByteArray} {nL : Nat} {rt : Option FieldType} {pc : Nat} {off : Int} {tg : Nat} (hd : decode cc pc = .ok (.ifnull off, 3)) (ht : (pc : Int) + off = (tg : Int)) : q_Snd sx own cc nL rt pc (o_ifnull tg (pc + 3)) := by
  intro g p l e R s m args below meth c cells slots Q rm P hC ls st H hok
  obtain ⟨hx, hb, hml, hown, hts, hK, hX, hbl, hN, hJ, hR, hret⟩ := hC
  unfold o_ifnull
  split
  · exact fun _ => ⟨⟨hok.1, q_okS_tl hok.2⟩, fun k Hh locs lsA hl hP hS => lv_ifnullN hx hb hd ht (k Hh locs lsA hl hP hS)⟩
  · exact fun _ => ⟨⟨hok.1, q_okS_tl hok.2⟩, fun k Hh locs lsA hl hP hS => lv_ifnull hx hb hd (k Hh locs lsA hl hP hS)⟩
  · exact trivial
theorem s_ifnonnull {sx : QX} {own : String} {cc : ByteArray} {nL : Nat} {rt : Option FieldType} {pc : Nat} {off : Int} {tg : Nat} (hd : decode cc pc = .ok (.ifnonnull off, 3)) (ht : (pc : Int) + off = (tg : Int)) : q_Snd sx own cc nL rt pc (o_ifnull (pc + 3) tg) := by
  intro g p l e R s m args below meth c cells slots Q rm P hC ls st H hok
  obtain ⟨hx, hb, hml, hown, hts, hK, hX, hbl, hN, hJ, hR, hret⟩ := hC
  unfold o_ifnull
  split
  · exact fun _ => ⟨⟨hok.1, q_okS_tl hok.2⟩, fun k Hh locs lsA hl hP hS => lv_ifnonnullN hx hb hd (k Hh locs lsA hl hP hS)⟩
  · exact fun _ => ⟨⟨hok.1, q_okS_tl hok.2⟩, fun k Hh locs lsA hl hP hS => lv_ifnonnull hx hb hd ht (k Hh locs lsA hl hP hS)⟩
  · exact trivial
end
section
def q_inb (i : Int32) (n : Nat) : Bool := !(decide (i < 0) || Nat.ble n i.toNatClampNeg)
theorem q_inb_in {i : Int32} {n : Nat} (h : q_inb i n = true) : vp_in i n := by
  unfold q_inb at h
  simp only [Bool.not_eq_true', Bool.or_eq_false_iff, decide_eq_false_iff_not] at h
  intro q
  rcases q with q | q
  · exact h.1 q
  · rw [Nat.ble_eq_true_of_le q] at h
    exact absurd h.2 (by simp)
def o_iald (nx : Nat) : QO := fun ls st H => match st with
  | .inl i :: .inr (.inr (k, p)) :: st => cond (Nat.ble 100 k) (some (.inl (q_inb i (k - 100), (nx, (ls, (.inl (H p i.toNatClampNeg) :: st, H)))))) none
  | _ => none
def o_iast (nx : Nat) : QO := fun ls st H => match st with
  | .inl x :: .inl i :: .inr (.inr (k, p)) :: st => cond (Nat.ble 100 k) (some (.inl (q_inb i (k - 100), (nx, (ls, (st, q_hs H p i.toNatClampNeg x)))))) none
  | _ => none
def o_aald (nx : Nat) : QO := fun ls st H => match st with
  | .inl i :: .inr (.inr (k, p)) :: st => cond (Nat.ble 20 k) (cond (Nat.ble k 99) (some (.inl (q_inb i (k - 20), (nx, (ls, (.inr (.inr (5, p + 1 + 7 * i.toNatClampNeg)) :: st, H)))))) none) none
  | _ => none
def o_len (nx : Nat) : QO := fun ls st H => match st with
  | .inr (.inr (k, p)) :: st => cond (Nat.ble 100 k) (some (.inl (true, (nx, (ls, (.inl (Int32.ofNat (k - 100)) :: st, H)))))) (cond (Nat.ble 20 k) (some (.inl (true, (nx, (ls, (.inl (Int32.ofNat (k - 20)) :: st, H)))))) none)
  | _ => none
def o_sld (sx : QX) (nx : Nat) : QO := fun ls st H => match st with
  | .inl i :: .inr (.inr (10, 183)) :: st => some (.inl (q_inb i sx.1, (nx, (ls, (.inl (sx.2 i.toNatClampNeg) :: st, H)))))
  | _ => none
def o_slen (sx : QX) (nx : Nat) : QO := fun ls st H => match st with
  | .inr (.inr (10, 183)) :: st => some (.inl (true, (nx, (ls, (.inl (Int32.ofNat sx.1) :: st, H)))))
  | _ => none
def o_gf (ci j nx : Nat) : QO := fun ls st H => match st with
  | .inr (.inr (k, p)) :: st => cond (Nat.beq (q_cio k) ci) (match q_fr k j with
    | none => some (.inl (true, (nx, (ls, (.inl (H p j) :: st, H)))))
    | some o => some (.inl (true, (nx, (ls, (q_rv p o :: st, H)))))) none
  | _ => none
def o_pf (ci j nx : Nat) : QO := fun ls st H => match st with
  | .inl x :: .inr (.inr (k, p)) :: st => cond (Nat.beq (q_cio k) ci) (match q_fr k j with
    | none => some (.inl (true, (nx, (ls, (st, q_hs H p j x)))))
    | some _ => none) none
  | _ => none
theorem q_en_int {g : QG} {H : QH} {p k : Nat} (h : q_sh p = k) (hk : 100 ≤ k) : q_en g H p = .inl (g.2.2.1, (k - 100, .inl (H p))) := by
  unfold q_en q_ek
  rw [h, if_pos hk]
theorem q_en_ref {g : QG} {H : QH} {p k : Nat} (h : q_sh p = k) (hk : 20 ≤ k) (hk2 : k < 100) : q_en g H p = .inl (g.2.2.2, (k - 20, .inr (.inr (.inr (.inr (fun j => some (q_ad g (p + 1 + 7 * j)))))))) := by
  unfold q_en q_ek
  rw [h, if_neg (by omega), if_pos hk]
theorem q_en_obj {g : QG} {H : QH} {p k : Nat} (h : q_sh p = k) (hk2 : k < 20) : q_en g H p = .inr (q_cio k, q_fs g H k p) := by
  unfold q_en q_ek
  rw [h, if_neg (by omega), if_neg (by omega)]
theorem q_cio_lt {k c : Nat} (hc : c < 99) (h : q_cio k = c) : k < 10 ∧ 1 ≤ k := by
  have hk : k < 10 := by
    rcases Nat.lt_or_ge k 10 with h1 | h1
    · exact h1
    · exfalso
      unfold q_cio at h
      rw [List.getD_eq_getElem?_getD, List.getElem?_eq_none (by simpa using h1)] at h
      simp at h
      omega
  refine ⟨hk, ?_⟩
  rcases Nat.eq_zero_or_pos k with h1 | h1
  · subst h1
    have : (99 : Nat) = c := h
    omega
  · exact h1
theorem q_vd_at {k p : Nat} (h : q_vd (.inr (.inr (k, p)))) (h1 : 1 ≤ k) (h2 : k ≠ 10) : p < 183 ∧ q_sh p = k := by
  obtain ⟨k, rfl⟩ : ∃ k', k = k' + 1 := ⟨k - 1, by omega⟩
  rcases h with h | h
  · exact absurd h.1 h2
  · exact h
theorem q_c_ref {g : QG} {k p : Nat} (h1 : 1 ≤ k) : q_c g (.inr (.inr (k, p))) = .ref (q_ad g p) := by
  obtain ⟨k, rfl⟩ : ∃ k', k = k' + 1 := ⟨k - 1, by omega⟩
  rfl
theorem s_iald {sx : QX} {own : String} {cc : ByteArray} {nL : Nat} {rt : Option FieldType} {pc : Nat} (hd : decode cc pc = .ok (.iaload, 1)) : q_Snd sx own cc nL rt pc (o_iald (pc + 1)) := by
  intro g p l e R s m args below meth c cells slots Q rm P hC ls st H hok
  obtain ⟨hx, hb, hml, hown, hts, hK, hX, hbl, hN, hJ, hR, hret⟩ := hC
  unfold o_iald
  split
  · rename_i i k a st
    cases hk : Nat.ble 100 k with
    | false => exact trivial
    | true =>
      have hk1 := Nat.le_of_ble_eq_true hk
      intro hg
      obtain ⟨hp, hsh⟩ := q_vd_at (q_okS_hd (q_okS_tl hok.2)) (by omega) (by omega)
      refine ⟨⟨hok.1, q_okS_cons (q_vI _) (q_okS_tl (q_okS_tl hok.2))⟩, fun kk Hh locs lsA hl hP hS => ?_⟩
      show W p l e R s m args below meth c Hh locs cells slots Q (F0 m pc lsA (.int i :: q_c g (.inr (.inr (k, _))) :: st.map (q_c g)))
      rw [q_c_ref (by omega)]
      exact va_iald hx hb hK hP _ 0 ((q_wd_get g H hp).trans (by rw [q_en_int hsh hk1])) rfl (q_inb_in hg) hd (kk Hh locs lsA hl hP hS)
  · exact trivial
theorem s_iast {sx : QX} {own : String} {cc : ByteArray} {nL : Nat} {rt : Option FieldType} {pc : Nat} (hd : decode cc pc = .ok (.iastore, 1)) : q_Snd sx own cc nL rt pc (o_iast (pc + 1)) := by
  intro g p l e R s m args below meth c cells slots Q rm P hC ls st H hok
  obtain ⟨hx, hb, hml, hown, hts, hK, hX, hbl, hN, hJ, hR, hret⟩ := hC
  unfold o_iast
  split
  · rename_i x i k a st
    cases hk : Nat.ble 100 k with
    | false => exact trivial
    | true =>
      have hk1 := Nat.le_of_ble_eq_true hk
      intro hg
      obtain ⟨hp, hsh⟩ := q_vd_at (q_okS_hd (q_okS_tl (q_okS_tl hok.2))) (by omega) (by omega)
      refine ⟨⟨hok.1, q_okS_tl (q_okS_tl (q_okS_tl hok.2))⟩, fun kk Hh locs lsA hl hP hS => ?_⟩
      show W p l e R s m args below meth c Hh locs cells slots Q (F0 m pc lsA (.int x :: .int i :: q_c g (.inr (.inr (k, _))) :: st.map (q_c g)))
      rw [q_c_ref (by omega)]
      refine va_iast hx hb hK hP (q_wd_D hJ H) hS _ 0 ((q_wd_get g H hp).trans (by rw [q_en_int hsh hk1])) rfl (q_inb_in hg) hd (fun H1 locs1 hP1 hD1 hS1 => ?_)
      refine kk H1 locs1 lsA hl ?_ hS1
      have e1 := q_wd_set g (H := H) (H' := q_hs H _ i.toNatClampNeg x) hp (fun q hq => q_hs_ne hq)
      rw [q_en_int hsh hk1, q_hs_eq] at e1
      rw [e1] at hP1
      exact hP1
  · exact trivial
theorem s_aald {sx : QX} {own : String} {cc : ByteArray} {nL : Nat} {rt : Option FieldType} {pc : Nat} (hd : decode cc pc = .ok (.aaload, 1)) : q_Snd sx own cc nL rt pc (o_aald (pc + 1)) := by
  intro g p l e R s m args below meth c cells slots Q rm P hC ls st H hok
  obtain ⟨hx, hb, hml, hown, hts, hK, hX, hbl, hN, hJ, hR, hret⟩ := hC
  unfold o_aald
  split
  · rename_i i k a st
    cases hk : Nat.ble 20 k with
    | false => exact trivial
    | true =>
      cases hk9 : Nat.ble k 99 with
      | false => exact trivial
      | true =>
        have hk1 := Nat.le_of_ble_eq_true hk
        have hk2 := Nat.le_of_ble_eq_true hk9
        intro hg
        obtain ⟨hp, hsh⟩ := q_vd_at (q_okS_hd (q_okS_tl hok.2)) (by omega) (by omega)
        have hin := q_inb_in hg
        have hlt : i.toNatClampNeg < k - 20 := Nat.not_le.mp fun q => hin (Or.inr q)
        refine ⟨⟨hok.1, q_okS_cons (q_el_ok hp (by omega) (by omega) (by omega)) (q_okS_tl (q_okS_tl hok.2))⟩, fun kk Hh locs lsA hl hP hS => ?_⟩
        show W p l e R s m args below meth c Hh locs cells slots Q (F0 m pc lsA (.int i :: q_c g (.inr (.inr (k, _))) :: st.map (q_c g)))
        rw [q_c_ref (by omega)]
        have hcell : (q_wd g H)[a]? = some (q_ad g a, .inl (g.2.2.2, (k - 20, .inr (.inr (.inr (.inr (fun j => some (q_ad g (a + 1 + 7 * j)))))))))  := (q_wd_get g H hp).trans (by rw [q_en_ref hsh hk1 (by omega)])
        exact va_aldq hx hb hK hP _ 1 hcell rfl hin hd (kk Hh locs lsA hl hP hS)
  · exact trivial
theorem s_len {sx : QX} {own : String} {cc : ByteArray} {nL : Nat} {rt : Option FieldType} {pc : Nat} (hd : decode cc pc = .ok (.arraylength, 1)) : q_Snd sx own cc nL rt pc (o_len (pc + 1)) := by
  intro g p l e R s m args below meth c cells slots Q rm P hC ls st H hok
  obtain ⟨hx, hb, hml, hown, hts, hK, hX, hbl, hN, hJ, hR, hret⟩ := hC
  unfold o_len
  split
  · rename_i k a st
    cases hk : Nat.ble 100 k with
    | true =>
      have hk1 := Nat.le_of_ble_eq_true hk
      intro hg
      obtain ⟨hp, hsh⟩ := q_vd_at (q_okS_hd hok.2) (by omega) (by omega)
      refine ⟨⟨hok.1, q_okS_cons (q_vI _) (q_okS_tl hok.2)⟩, fun kk Hh locs lsA hl hP hS => ?_⟩
      show W p l e R s m args below meth c Hh locs cells slots Q (F0 m pc lsA (q_c g (.inr (.inr (k, _))) :: st.map (q_c g)))
      rw [q_c_ref (by omega)]
      have hcell : (q_wd g H)[a]? = some (q_ad g a, .inl (g.2.2.1, (k - 100, .inl (H a)))) := (q_wd_get g H hp).trans (by rw [q_en_int hsh hk1])
      exact va_alen hx hb hK hP _ 0 hcell rfl rfl hd (kk Hh locs lsA hl hP hS)
    | false =>
      cases hk2 : Nat.ble 20 k with
      | false => exact trivial
      | true =>
        have hk1 := Nat.le_of_ble_eq_true hk2
        have hk3 : k < 100 := Nat.not_le.mp fun q => by rw [q_lT q] at hk; cases hk
        intro hg
        obtain ⟨hp, hsh⟩ := q_vd_at (q_okS_hd hok.2) (by omega) (by omega)
        refine ⟨⟨hok.1, q_okS_cons (q_vI _) (q_okS_tl hok.2)⟩, fun kk Hh locs lsA hl hP hS => ?_⟩
        show W p l e R s m args below meth c Hh locs cells slots Q (F0 m pc lsA (q_c g (.inr (.inr (k, _))) :: st.map (q_c g)))
        rw [q_c_ref (by omega)]
        have hcell : (q_wd g H)[a]? = some (q_ad g a, .inl (g.2.2.2, (k - 20, .inr (.inr (.inr (.inr (fun j => some (q_ad g (a + 1 + 7 * j)))))))))  := (q_wd_get g H hp).trans (by rw [q_en_ref hsh hk1 hk3])
        exact va_alen hx hb hK hP _ 1 hcell rfl rfl hd (kk Hh locs lsA hl hP hS)
  · exact trivial
theorem q_A_b {g : QG} (hJ : q_inj g) : ¬ q_A g (q_ad g 183) := by
  rintro ⟨p, hp, h⟩
  have := hJ 183 p (by omega) (by omega) h
  omega
theorem s_sld {sx : QX} {own : String} {cc : ByteArray} {nL : Nat} {rt : Option FieldType} {pc : Nat} (hd : decode cc pc = .ok (.iaload, 1)) : q_Snd sx own cc nL rt pc (o_sld sx (pc + 1)) := by
  intro g p l e R s m args below meth c cells slots Q rm P hC ls st H hok
  obtain ⟨hx, hb, hml, hown, hts, hK, hX, hbl, hN, hJ, hR, hret⟩ := hC
  unfold o_sld
  split
  · rename_i i st
    intro hg
    exact ⟨⟨hok.1, q_okS_cons (q_vI _) (q_okS_tl (q_okS_tl hok.2))⟩, fun kk Hh locs lsA hl hP hS => va_sld hx hb hX hbl (q_A_b hJ) hS (q_inb_in hg) hd (kk Hh locs lsA hl hP hS)⟩
  · exact trivial
theorem s_slen {sx : QX} {own : String} {cc : ByteArray} {nL : Nat} {rt : Option FieldType} {pc : Nat} (hd : decode cc pc = .ok (.arraylength, 1)) : q_Snd sx own cc nL rt pc (o_slen sx (pc + 1)) := by
  intro g p l e R s m args below meth c cells slots Q rm P hC ls st H hok
  obtain ⟨hx, hb, hml, hown, hts, hK, hX, hbl, hN, hJ, hR, hret⟩ := hC
  unfold o_slen
  split
  · rename_i st
    intro hg
    exact ⟨⟨hok.1, q_okS_cons (q_vI _) (q_okS_tl hok.2)⟩, fun kk Hh locs lsA hl hP hS => va_slen hx hb hX hbl (q_A_b hJ) hS hd (kk Hh locs lsA hl hP hS)⟩
  · exact trivial
theorem q_fs_get {g : QG} {H : QH} {k p j : Nat} (hj : j < q_nf k) : (q_fs g H k p)[j]? = some (q_fv g H k p j) := by
  unfold q_fs
  rw [List.getElem?_map, List.getElem?_range hj]
  rfl
theorem q_fs_set {g : QG} {H : QH} {k p j : Nat} {x : Int32} (h : q_fr k j = none) : (q_fs g H k p).set j (.int x) = q_fs g (q_hs H p j x) k p := by
  refine List.ext_getElem? fun i => ?_
  have hl1 : (q_fs g H k p).length = q_nf k := by simp [q_fs]
  by_cases hi : i < q_nf k
  · rw [q_fs_get hi]
    by_cases hij : i = j
    · subst hij
      rw [List.getElem?_set_self (by rw [hl1]; exact hi)]
      unfold q_fv
      rw [h, q_hs_eq]
      simp [upd]
    · rw [List.getElem?_set_ne (Ne.symm hij), q_fs_get hi]
      unfold q_fv
      rw [q_hs_eq]
      simp [upd, hij]
  · rw [List.getElem?_eq_none (by rw [List.length_set, hl1]; omega), List.getElem?_eq_none (by simp [q_fs]; omega)]
theorem s_gf {sx : QX} {own : String} {cc : ByteArray} {nL : Nat} {rt : Option FieldType} {pc : Nat} {ci j i : Nat} {C : String} {T : u_T} {N : Nat} (hd : decode cc pc = .ok (.getfield i, 3)) (hc : vwCl[ci]? = some (C, T, N)) (hj : j < N) (hN : ∀ k, q_cio k = ci → q_nf k = N) (hin : ∀ w ∈ u_ws C T N, w ∈ q_tw) (hT : (T j).1 = C) (hw : Cond.fieldLink own i C (T j).2.1 (T j).2.2.1 ∈ q_tw) : q_Snd sx own cc nL rt pc (o_gf ci j (pc + 3)) := by
  intro g p l e R s m args below meth c cells slots Q rm P hC ls st H hok
  obtain ⟨hx, hb, hml, hown, hts, hK, hX, hbl, hNst, hJ, hR, hret⟩ := hC
  unfold o_gf
  split
  · rename_i k a st
    cases hk : Nat.beq (q_cio k) ci with
    | false => exact trivial
    | true =>
      have hk1 : q_cio k = ci := Nat.eq_of_beq_eq_true hk
      have hci : ci < 8 := (List.getElem?_eq_some_iff.mp hc).1
      obtain ⟨hk2, hk3⟩ := q_cio_lt (by omega) hk1
      obtain ⟨hp, hsh⟩ := q_vd_at (q_okS_hd hok.2) hk3 (by omega)
      have hcell := (q_wd_get g H hp).trans (by rw [q_en_obj hsh (by omega), hk1])
      have hf := q_fs_get (g := g) (H := H) (k := k) (p := a) (j := j) (by rw [hN k hk1]; exact hj)
      have hsame : ∀ x, s.fieldFound? (T j).1 (T j).2.1 (T j).2.2.1 = some x → s.fieldFound? C (T j).2.1 (T j).2.2.1 = some x := fun x h => hT ▸ h
      cases hfr : q_fr k j with
      | none =>
        refine fun _ => ⟨⟨hok.1, q_okS_cons (q_vI _) (q_okS_tl hok.2)⟩, fun kk Hh locs lsA hl hP hS => ?_⟩
        show W p l e R s m args below meth c Hh locs cells slots Q (F0 m pc lsA (q_c g (.inr (.inr (k, _))) :: st.map (q_c g)))
        rw [q_c_ref hk3]
        exact va_get hx hb hts hin hown hK hP _ hcell hc j hj (hts _ hw) hsame (v := .int (H _ j)) (by rw [hf]; unfold q_fv; rw [hfr]) hd (kk Hh locs lsA hl hP hS)
      | some o =>
        refine fun _ => ⟨⟨hok.1, q_okS_cons (q_fr_ok hp (by rw [hsh]; exact hfr)).1 (q_okS_tl hok.2)⟩, fun kk Hh locs lsA hl hP hS => ?_⟩
        show W p l e R s m args below meth c Hh locs cells slots Q (F0 m pc lsA (q_c g (.inr (.inr (k, _))) :: st.map (q_c g)))
        rw [q_c_ref hk3]
        exact va_get hx hb hts hin hown hK hP _ hcell hc j hj (hts _ hw) hsame (v := q_c g (q_rv _ o)) (by rw [hf]; unfold q_fv; rw [hfr]) hd (kk Hh locs lsA hl hP hS)
  · exact trivial
theorem s_pf {sx : QX} {own : String} {cc : ByteArray} {nL : Nat} {rt : Option FieldType} {pc : Nat} {ci j i : Nat} {C : String} {T : u_T} {N : Nat} (ty0 : Nat → FieldType) (hd : decode cc pc = .ok (.putfield i, 3)) (hc : vwCl[ci]? = some (C, T, N)) (hj : j < N) (hN : ∀ k, q_cio k = ci → q_nf k = N) (hin : ∀ w ∈ u_ws C T N, w ∈ q_tw) (hT : (T j).1 = C) (hw : Cond.fieldLink own i C (T j).2.1 (T j).2.2.1 ∈ q_tw) (hty : ∀ k, k < N → parseFieldDescriptor (T k).2.2.1 = some (ty0 k)) (hnm : ∀ a, a < N → ∀ b, b < N → a ≠ b → (T a).2.1 ≠ (T b).2.1) (hfin : (T j).2.2.2 = false) (hint : ty0 j = .int) : q_Snd sx own cc nL rt pc (o_pf ci j (pc + 3)) := by
  intro g p l e R s m args below meth c cells slots Q rm P hC ls st H hok
  obtain ⟨hx, hb, hml, hown, hts, hK, hX, hbl, hNst, hJ, hR, hret⟩ := hC
  unfold o_pf
  split
  · rename_i x k a st
    cases hk : Nat.beq (q_cio k) ci with
    | false => exact trivial
    | true =>
      have hk1 : q_cio k = ci := Nat.eq_of_beq_eq_true hk
      have hci : ci < 8 := (List.getElem?_eq_some_iff.mp hc).1
      obtain ⟨hk2, hk3⟩ := q_cio_lt (by omega) hk1
      obtain ⟨hp, hsh⟩ := q_vd_at (q_okS_hd (q_okS_tl hok.2)) hk3 (by omega)
      have hcell := (q_wd_get g H hp).trans (by rw [q_en_obj hsh (by omega), hk1])
      have hsame : ∀ x, s.fieldFound? (T j).1 (T j).2.1 (T j).2.2.1 = some x → s.fieldFound? C (T j).2.1 (T j).2.2.1 = some x := fun x h => hT ▸ h
      cases hfr : q_fr k j with
      | some o => exact trivial
      | none =>
        refine fun _ => ⟨⟨hok.1, q_okS_tl (q_okS_tl hok.2)⟩, fun kk Hh locs lsA hl hP hS => ?_⟩
        show W p l e R s m args below meth c Hh locs cells slots Q (F0 m pc lsA (.int x :: q_c g (.inr (.inr (k, _))) :: st.map (q_c g)))
        rw [q_c_ref hk3]
        refine va_put hx hb hts hin ty0 hty hnm hown hK hP (q_wd_D hJ H) hS _ hcell hc j hj (hts _ hw) hsame hfin (ty := .int) (v := .int x) (by rw [hty j hj, hint]) rfl rfl (by simp [q_fs]; rw [hN k hk1]; exact hj) hd (fun H1 locs1 hP1 hD1 hS1 => ?_)
        refine kk H1 locs1 lsA hl ?_ hS1
        have e1 := q_wd_set g (H := H) (H' := q_hs H _ j x) hp (fun q hq => q_hs_ne hq)
        rw [q_en_obj hsh (by omega), hk1, ← q_fs_set hfr] at e1
        rw [e1] at hP1
        exact hP1
  · exact trivial
/-! returns -/
def o_ir (bz : Bool) : QO := fun ls st H => match st with
  | [.inl x] => some (.inr (.inr (.inl (cond bz (decide (x = 0) || decide (x = 1)) true, (some (.inl x), H)))))
  | _ => none
def o_vr : QO := fun ls st H => match st with
  | [] => some (.inr (.inr (.inl (true, (none, H)))))
  | _ => none
def o_ar : QO := fun ls st H => match st with
  | [.inr (.inr (k, p))] => some (.inr (.inr (.inl (true, (some (.inr (.inr (k, p))), H)))))
  | _ => none
theorem s_ir {sx : QX} {own : String} {cc : ByteArray} {nL : Nat} {rt : Option FieldType} {pc : Nat} (hd : decode cc pc = .ok (.ireturn, 1)) (hrt : rt = some .int) : q_Snd sx own cc nL rt pc (o_ir false) := by
  intro g p l e R s m args below meth c cells slots Q rm P hC ls st H hok
  obtain ⟨hx, hb, hml, hown, hts, hK, hX, hbl, hN, hJ, hR, hret⟩ := hC
  unfold o_ir
  split
  · rename_i x
    exact fun _ => ⟨fun v hv => by cases hv; exact trivial, fun hPr Hh locs lsA hl hP hS => hret.1 pc x H Hh locs lsA .int hrt rfl hd hPr hP hS⟩
  · exact trivial
theorem q_bool {x : Int32} (h : (decide (x = 0) || decide (x = 1)) = true) : narrow .boolean (.int x) = .int x := by
  simp only [Bool.or_eq_true, decide_eq_true_eq] at h
  rcases h with rfl | rfl <;> rfl
theorem s_zr {sx : QX} {own : String} {cc : ByteArray} {nL : Nat} {rt : Option FieldType} {pc : Nat} (hd : decode cc pc = .ok (.ireturn, 1)) (hrt : rt = some .boolean) : q_Snd sx own cc nL rt pc (o_ir true) := by
  intro g p l e R s m args below meth c cells slots Q rm P hC ls st H hok
  obtain ⟨hx, hb, hml, hown, hts, hK, hX, hbl, hN, hJ, hR, hret⟩ := hC
  unfold o_ir
  split
  · rename_i x
    exact fun hg => ⟨fun v hv => by cases hv; exact trivial, fun hPr Hh locs lsA hl hP hS => hret.1 pc x H Hh locs lsA .boolean hrt (q_bool hg) hd hPr hP hS⟩
  · exact trivial
theorem s_vr {sx : QX} {own : String} {cc : ByteArray} {nL : Nat} {rt : Option FieldType} {pc : Nat} (hd : decode cc pc = .ok (.return_, 1)) (hrt : rt = none) : q_Snd sx own cc nL rt pc o_vr := by
  intro g p l e R s m args below meth c cells slots Q rm P hC ls st H hok
  obtain ⟨hx, hb, hml, hown, hts, hK, hX, hbl, hN, hJ, hR, hret⟩ := hC
  unfold o_vr
  split
  · exact fun _ => ⟨(fun v hv => by cases hv), fun hPr Hh locs lsA hl hP hS => hret.2.1 pc H Hh locs lsA hrt hd hPr hP hS⟩
  · exact trivial
theorem s_ar {sx : QX} {own : String} {cc : ByteArray} {nL : Nat} {rt : Option FieldType} {pc : Nat} {C : String} (hd : decode cc pc = .ok (.areturn, 1)) (hrt : rt = some (.object C)) : q_Snd sx own cc nL rt pc o_ar := by
  intro g p l e R s m args below meth c cells slots Q rm P hC ls st H hok
  obtain ⟨hx, hb, hml, hown, hts, hK, hX, hbl, hN, hJ, hR, hret⟩ := hC
  unfold o_ar
  split
  · rename_i k a
    exact fun _ => ⟨fun v hv => by cases hv; exact q_okS_hd hok.2, fun hPr Hh locs lsA hl hP hS => hret.2.2 pc k a H Hh locs lsA C hrt hd (q_okS_hd hok.2) hPr hP hS⟩
  · exact trivial
end
section
def q_pk (x : Int32) (d : Nat) : List (Int32 × Nat) → Nat
  | [] => d
  | (k, t) :: l => if x = k then t else q_pk x d l
def o_sw (l : List (Int32 × Nat)) (d : Nat) : QO := fun ls st H => match st with
  | .inl x :: st => some (.inr (.inr (.inr (.inr (x, (l.map (fun q => (q.1, (q.2, (ls, (st, H))))), (d, (ls, (st, H)))))))))
  | _ => none
theorem q_pick_pk (x : Int32) (d : Nat) (ls : QL) (st : List QV) (H : QH) (l : List (Int32 × Nat)) : q_pick x (d, (ls, (st, H))) (l.map (fun q => (q.1, (q.2, (ls, (st, H)))))) = (q_pk x d l, (ls, (st, H))) := by
  induction l with
  | nil => rfl
  | cons q l ih =>
    obtain ⟨k, t⟩ := q
    show (if x = k then _ else _) = ((if x = k then t else q_pk x d l), _)
    by_cases h : x = k
    · rw [if_pos h, if_pos h]
    · rw [if_neg h, if_neg h]; exact ih
def q_tck (pc : Int) : List Int → Int → List (Int32 × Nat) → Bool
  | [], _, [] => true
  | o :: os, k, (k', t) :: l => decide (k'.toInt = k) && (decide (pc + o = (t : Int)) && q_tck pc os (k + 1) l)
  | _, _, _ => false
theorem q_tck_out {pc : Int} {x : Int32} {d : Nat} : ∀ (os : List Int) (k : Int) (l : List (Int32 × Nat)), q_tck pc os k l = true → (x.toInt < k ∨ k + os.length ≤ x.toInt) → q_pk x d l = d
  | [], k, [], _, _ => rfl
  | [], k, _ :: _, h, _ => by cases h
  | _ :: _, k, [], h, _ => by cases h
  | o :: os, k, (k', t) :: l, h, hx => by
    simp only [q_tck, Bool.and_eq_true, decide_eq_true_eq] at h
    obtain ⟨h1, h2, h3⟩ := h
    have hne : ¬ x = k' := fun e => by
      subst e
      simp only [List.length_cons] at hx
      omega
    show (if x = k' then t else q_pk x d l) = d
    rw [if_neg hne]
    refine q_tck_out os (k + 1) l h3 ?_
    simp only [List.length_cons] at hx
    have : x.toInt ≠ k := fun e => hne (Int32.toInt_inj.mp (by rw [h1]; exact e))
    omega
theorem q_tck_in {pc : Int} {x : Int32} {d : Nat} : ∀ (os : List Int) (k : Int) (l : List (Int32 × Nat)), q_tck pc os k l = true → k ≤ x.toInt → x.toInt < k + os.length → ∃ off, os[(x.toInt - k).toNat]? = some off ∧ pc + off = (q_pk x d l : Int)
  | [], k, _, _, h1, h2 => by simp at h2; omega
  | _ :: _, k, [], h, _, _ => by cases h
  | o :: os, k, (k', t) :: l, h, hx1, hx2 => by
    simp only [q_tck, Bool.and_eq_true, decide_eq_true_eq] at h
    obtain ⟨h1, h2, h3⟩ := h
    by_cases hxk : x.toInt = k
    · have e : x = k' := Int32.toInt_inj.mp (by rw [h1]; exact hxk)
      refine ⟨o, by rw [hxk]; simp, ?_⟩
      show pc + o = ((if x = k' then t else q_pk x d l : Nat) : Int)
      rw [if_pos e]; exact h2
    · have hne : ¬ x = k' := fun e => hxk (by rw [e]; exact h1)
      simp only [List.length_cons] at hx2
      obtain ⟨off, e1, e2⟩ := q_tck_in (d := d) (x := x) os (k + 1) l h3 (by omega) (by omega)
      refine ⟨off, ?_, ?_⟩
      · have : (x.toInt - k).toNat = (x.toInt - (k + 1)).toNat + 1 := by omega
        rw [this, List.getElem?_cons_succ]; exact e1
      · show pc + off = ((if x = k' then t else q_pk x d l : Nat) : Int)
        rw [if_neg hne]; exact e2
theorem s_tsw {sx : QX} {own : String} {cc : ByteArray} {nL : Nat} {rt : Option FieldType} {pc : Nat} {l : List (Int32 × Nat)} {d : Nat} {dflt lo hi : Int} {offs : Array Int} {len : Nat} (hd : decode cc pc = .ok (.tableswitch dflt lo hi offs, len)) (hc : q_tck pc offs.toList lo l = true) (hh : hi = lo + offs.toList.length - 1) (hdf : (pc : Int) + dflt = (d : Int)) : q_Snd sx own cc nL rt pc (o_sw l d) := by
  intro g p l e R s m args below meth c cells slots Q rm P hC ls st H hok
  obtain ⟨hx, hb, hml, hown, hts, hK, hX, hbl, hN, hJ, hR, hret⟩ := hC
  unfold o_sw
  split
  · rename_i x st
    show q_ok (q_pick _ _ _) ∧ (q_W g p l e R s m args below meth c cells slots Q nL (q_pick _ _ _) → _)
    rw [q_pick_pk]
    refine ⟨⟨hok.1, q_okS_tl hok.2⟩, fun kk Hh locs lsA hl hP hS => ?_⟩
    by_cases hb1 : x.toInt < lo ∨ hi < x.toInt
    · have e := q_tck_out (d := d) (x := x) _ _ _ hc (by omega)
      have kk := kk Hh locs lsA hl hP hS
      rw [e] at kk
      exact lv_tableOut hx hb hd hb1 hdf kk
    · obtain ⟨off, e1, e2⟩ := q_tck_in (d := d) (x := x) _ _ _ hc (by omega) (by omega)
      exact lv_tableIn hx hb hd (fun h => hb1 (Or.inl h)) (fun h => hb1 (Or.inr h)) (by rw [← Array.getElem?_toList]; exact e1) e2 (kk Hh locs lsA hl hP hS)
  · exact trivial
def q_lck (pc : Int) : List (Int × Int) → List (Int32 × Nat) → Bool
  | [], [] => true
  | (a, o) :: os, (k, t) :: l => decide (k.toInt = a) && (decide (pc + o = (t : Int)) && q_lck pc os l)
  | _, _ => false
theorem q_lck_ok {pc dflt : Int} {x : Int32} {d : Nat} (hdf : pc + dflt = (d : Int)) : ∀ (os : List (Int × Int)) (l : List (Int32 × Nat)), q_lck pc os l = true → pc + Op.lookupswitch.offset os dflt x.toInt = (q_pk x d l : Int)
  | [], [], _ => by
    show pc + Op.lookupswitch.offset [] dflt x.toInt = (d : Int)
    rw [← hdf]; rfl
  | [], _ :: _, h => by cases h
  | _ :: _, [], h => by cases h
  | (a, o) :: os, (k, t) :: l, h => by
    simp only [q_lck, Bool.and_eq_true, decide_eq_true_eq] at h
    obtain ⟨h1, h2, h3⟩ := h
    by_cases e : x = k
    · show _ = ((if x = k then t else q_pk x d l : Nat) : Int)
      rw [if_pos e, Op.lookupswitch.offset_cons, if_pos (by rw [e]; exact h1.symm)]
      exact h2
    · show _ = ((if x = k then t else q_pk x d l : Nat) : Int)
      rw [if_neg e, lv_osw e h1]
      exact q_lck_ok hdf os l h3
theorem s_lsw {sx : QX} {own : String} {cc : ByteArray} {nL : Nat} {rt : Option FieldType} {pc : Nat} {l : List (Int32 × Nat)} {d : Nat} {dflt : Int} {ps : Array (Int × Int)} {len : Nat} (hd : decode cc pc = .ok (.lookupswitch dflt ps, len)) (hp : (ps.toList.zip (ps.toList.drop 1)).all (fun (a, next) => a.1 < next.1) = true) (hc : q_lck pc ps.toList l = true) (hdf : (pc : Int) + dflt = (d : Int)) : q_Snd sx own cc nL rt pc (o_sw l d) := by
  intro g p l e R s m args below meth c cells slots Q rm P hC ls st H hok
  obtain ⟨hx, hb, hml, hown, hts, hK, hX, hbl, hN, hJ, hR, hret⟩ := hC
  unfold o_sw
  split
  · rename_i x st
    show q_ok (q_pick _ _ _) ∧ (q_W g p l e R s m args below meth c cells slots Q nL (q_pick _ _ _) → _)
    rw [q_pick_pk]
    exact ⟨⟨hok.1, q_okS_tl hok.2⟩, fun kk Hh locs lsA hl hP hS => lv_lookup hx hb hd hp rfl (q_lck_ok hdf _ _ hc) (kk Hh locs lsA hl hP hS)⟩
  · exact trivial
/-! calls -/
def q_pop : Nat → List QV → List QV → Option (List QV × List QV)
  | 0, st, acc => some (acc, st)
  | n + 1, v :: st, acc => q_pop n st (v :: acc)
  | _ + 1, [], _ => none
theorem q_pop_eq : ∀ (n : Nat) (st acc as rest : List QV), q_pop n st acc = some (as, rest) → ∃ b, st = b ++ rest ∧ as = b.reverse ++ acc ∧ b.length = n
  | 0, st, acc, as, rest, h => by cases h; exact ⟨[], rfl, rfl, rfl⟩
  | n + 1, [], acc, as, rest, h => by cases h
  | n + 1, v :: st, acc, as, rest, h => by
    obtain ⟨b, h1, h2, h3⟩ := q_pop_eq n st (v :: acc) as rest h
    exact ⟨v :: b, by rw [h1]; rfl, by rw [h2]; simp, by simp [h3]⟩
theorem q_pop_0 {n : Nat} {st as rest : List QV} (h : q_pop n st [] = some (as, rest)) : st = as.reverse ++ rest ∧ as.length = n := by
  obtain ⟨b, h1, h2, h3⟩ := q_pop_eq n st [] as rest h
  rw [List.append_nil] at h2
  subst h2
  exact ⟨by rw [List.reverse_reverse]; exact h1, by simp [h3]⟩
theorem q_cats_eq (g : QG) : ∀ st : List QV, ((st.map (q_c g)).map fun v => v.category).sum = q_cats st
  | [] => rfl
  | v :: st => by
    have := q_cats_eq g st
    simp only [List.map_cons, List.sum_cons, this, q_big_cat, q_cats]
    cases q_big v <;> rfl
def q_kn (rk nx : Nat) (ls : QL) (rest : List QV) : QC := match rk with
  | 0 => .inl (fun H => (nx, (ls, (rest, H))))
  | 1 => .inr (.inl (fun x H => (nx, (ls, (.inl x :: rest, H)))))
  | _ => .inr (.inr ((fun H => (nx, (ls, (.inr (.inr (0, 0)) :: rest, H)))), (fun p H => (nx, (ls, (.inr (.inr (5, p)) :: rest, H))))))
def o_cS (rk mid ml n nx : Nat) : QO := fun ls st H => match q_pop n st [] with
  | some (as, rest) => some (.inr (.inr (.inr (.inl (cond (Nat.ble (q_cats as) ml) (Nat.ble (q_cats rest) 8) false, ((mid, (as, H)), q_kn rk nx ls rest))))))
  | none => none
def o_cV (rk ci mid ml n nx : Nat) : QO := fun ls st H => match q_pop n st [] with
  | some (.inr (.inr (k, p)) :: as, rest) => some (.inr (.inr (.inr (.inl (cond (Nat.beq (q_cio k) ci) (cond (Nat.ble (q_cats (.inr (.inr (k, p)) :: as)) ml) (Nat.ble (q_cats rest) 8) false) false, ((mid, (.inr (.inr (k, p)) :: as, H)), q_kn rk nx ls rest))))))
  | _ => none
def o_max (nx : Nat) : QO := fun ls st H => match st with
  | .inl y :: .inl x :: st => some (.inl (Nat.ble (q_cats st) 8, (nx, (ls, (.inl (if x < y then y else x) :: st, H)))))
  | _ => none
theorem q_back {g : QG} {p : Program} {l : Launch} {e : Env} {R : Room} {s : State} {m : MethodId} {args : Array Value} {below : List Frame} {meth : Method} {c : Code} {cells slots : Nat} {Q : State → Prop} {nL : Nat} {r : QR} {pc : Nat} {lsA : Array Slot} {st0 rest : List Value} {a : Array Value} {Hh : Heap} {locs : List Loc} (hr : va_Run p l e R s m args below meth c Hh locs cells slots 0 0 (F0 m pc lsA st0) rest (q_Qc g r a) (q_A g)) (hS : va_S (q_A g) s.heap Hh locs)
    (kk : ∀ (H1 : Heap) (locs1 : List Loc), q_okR r → va_P g.1 vwCl (q_wd g r.2) H1 → va_S (q_A g) s.heap H1 locs1 → W p l e R s m args below meth c H1 locs1 cells slots Q (F0 m (pc + 3) lsA ((r.1.map (q_c g)).toList ++ rest))) : W p l e R s m args below meth c Hh locs cells slots Q (F0 m pc lsA st0) := by
  intro T hT X
  obtain ⟨v, st₀, t, T', L, h0, X', hL, e1, e2, ⟨⟨hvr, hv, hb⟩, hz, hk⟩, st⟩ := hr T hT X
  cases hv
  rw [h0] at hz hk
  obtain ⟨t2, a1, b1⟩ := kk T'.heap (locs ++ L) hvr (by rw [e1]; exact hb)
    ⟨Nat.le_trans hS.1 (by rw [e1]; exact hz), fun q h1 h2 => by rw [e1, hk q (Nat.lt_of_lt_of_le h1 hS.1) h2]; exact hS.2.1 q h1 h2, fun q hq => by
      rcases List.mem_append.mp hq with h | h
      · exact hS.2.2 q h
      · exact hL q h⟩ T' rfl X'
  exact ⟨t2, st t2 a1, b1⟩
theorem q_gd {a b c d : Nat} (h : cond (Nat.ble a b) (Nat.ble c d) false = true) : a ≤ b ∧ c ≤ d := by
  cases h1 : Nat.ble a b with
  | false => rw [h1] at h; cases h
  | true => rw [h1] at h; exact ⟨Nat.le_of_ble_eq_true h1, Nat.le_of_ble_eq_true h⟩
theorem q_gd0 {a b : Bool} (h : cond a b false = true) : a = true ∧ b = true := by
  cases a
  · cases h
  · exact ⟨rfl, h⟩
theorem q_sl_len (g : QG) : ∀ vs : List QV, (lg_sl (vs.map (q_c g))).length = q_cats vs
  | [] => rfl
  | v :: vs => by
    have h := q_sl_len g vs
    unfold lg_sl at h ⊢
    rw [List.map_cons, List.flatMap_cons, List.length_append, h, q_big_cat]
    show _ = cond (q_big v) 2 1 + q_cats vs
    cases q_big v <;> rfl
/-- what a call's end gives, whatever kind of answer it has -/
theorem q_callSp {sx : QX} {g : QG} {p : Program} {l : Launch} {e : Env} {R : Room} {s : State} {m : MethodId} {args : Array Value} {below : List Frame} {meth : Method} {c : Code} {cells slots : Nat} {Q : State → Prop} {nL : Nat} {rm : Room} {P : QR → Prop} {pc rk mid : Nat} {ls : QL} {st as rest : List QV} {H : QH} {b : Bool} {nx : Nat} (hnx : nx = pc + 3) (hcat : b = true → q_cats as ≤ (q_inf mid).2.2.1) (hok : q_ok (pc, (ls, (st, H)))) (hst : st = as.reverse ++ rest)
    (hrun : b = true → ∀ (r : QR), q_Met g sx l rm (mid, (as, H)) r → ∀ (Hh : Heap) (locs : List Loc) (lsA : Array Slot), lv_has lsA nL (ls.map (q_cl g)) → va_P g.1 vwCl (q_wd g H) Hh → va_S (q_A g) s.heap Hh locs → ∃ a, va_Run p l e R s m args below meth c Hh locs cells slots 0 0 (F0 m pc lsA (st.map (q_c g))) (rest.map (q_c g)) (q_Qc g r a) (q_A g)) :
    q_Sp sx g p l e R s m args below meth c cells slots Q nL rm P (pc, (ls, (st, H))) (some (.inr (.inr (.inr (.inl (b, ((mid, (as, H)), q_kn rk nx ls rest))))))) := by
  subst hnx
  have hokR : q_okS rest := fun v hv => hok.2 v (by rw [show st = _ from hst]; exact List.mem_append_right _ hv)
  have hokA : q_okS as := fun v hv => hok.2 v (by rw [show st = _ from hst]; exact List.mem_append_left _ (List.mem_reverse.mpr hv))
  match rk with
  | 0 =>
    refine fun hb => ⟨⟨hokA, hcat hb⟩, fun H' => ⟨⟨hok.1, hokR⟩, fun hm kk Hh locs lsA hl hP hS => ?_⟩⟩
    obtain ⟨a, hr⟩ := hrun hb _ hm Hh locs lsA hl hP hS
    exact q_back (nL := nL) hr hS (fun H1 locs1 _ hP1 hS1 => kk H1 locs1 lsA hl hP1 hS1)
  | 1 =>
    refine fun hb => ⟨⟨hokA, hcat hb⟩, fun x H' => ⟨⟨hok.1, q_okS_cons (q_vI _) hokR⟩, fun hm kk Hh locs lsA hl hP hS => ?_⟩⟩
    obtain ⟨a, hr⟩ := hrun hb _ hm Hh locs lsA hl hP hS
    exact q_back (nL := nL) hr hS (fun H1 locs1 _ hP1 hS1 => kk H1 locs1 lsA hl hP1 hS1)
  | n + 2 =>
    refine fun hb => ⟨⟨hokA, hcat hb⟩, fun y H' => ⟨⟨hok.1, q_okS_cons trivial hokR⟩, fun hm kk Hh locs lsA hl hP hS => ?_⟩, fun q H' => ⟨fun hv => ⟨hok.1, q_okS_cons hv hokR⟩, fun hm kk Hh locs lsA hl hP hS => ?_⟩⟩
    · obtain ⟨a, hr⟩ := hrun hb _ hm Hh locs lsA hl hP hS
      exact q_back (nL := nL) hr hS (fun H1 locs1 _ hP1 hS1 => kk H1 locs1 lsA hl hP1 hS1)
    · obtain ⟨a, hr⟩ := hrun hb _ hm Hh locs lsA hl hP hS
      exact q_back (nL := nL) hr hS (fun H1 locs1 hvr hP1 hS1 => kk (hvr _ rfl) H1 locs1 lsA hl hP1 hS1)
theorem q_ws_good {mid : Nat} {y : MethodName} {bytes : ByteArray} {ml : Nat} {ret : Option FieldType} (hi : q_inf mid = (y, (bytes, (ml, ret)))) (h5 : Cond.code y bytes ml ret ∈ q_tw) : ∀ w ∈ q_ws mid, w ∈ q_tw ∧ ((w.onTables && w.keeps) = true ∨ ∃ ty, w = .arrayClass ty) := by
  intro w hw
  rcases List.mem_cons.mp hw with h | h
  · rw [hi] at h
    subst h
    exact ⟨h5, q_tw_good h5⟩
  · exact ⟨h, q_tw_good h⟩
theorem q_ws_code {mid : Nat} {y : MethodName} {bytes : ByteArray} {ml : Nat} {ret : Option FieldType} (hi : q_inf mid = (y, (bytes, (ml, ret)))) : Cond.code y bytes ml ret ∈ q_ws mid := by
  unfold q_ws
  rw [hi]
  exact List.mem_cons_self
/-- the world as a callee is told it -/
theorem q_pre {sx : QX} {g : QG} {s U : State} {Hh : Heap} {locs : List Loc} {H : QH} (hK : va_K g.1 vwCl (q_tys g) s) (hX : va_X (q_ad g 183) sx.1 sx.2 s s.heap) (hbl : q_ad g 183 < s.heap.size) (hN : ∀ w ∈ q_nests, va_Nw w s) (hJ : q_inj g) (hP : va_P g.1 vwCl (q_wd g H) Hh) (hS : va_S (q_A g) s.heap Hh locs) (hU : U.heap = Hh) (hW : s.WarmedH U.vm) : q_WP g sx H U :=
  ⟨by rw [hU]; exact hP, va_K.moved hW.alike hK, va_X.moved hW.alike (by rw [hU]; exact hX.kept (hS.2.1 _ hbl (q_A_b hJ))), fun w hw => q_nests_warm hW w hw (hN w hw)⟩
theorem s_cS {sx : QX} {own : String} {cc : ByteArray} {nL : Nat} {rt : Option FieldType} {pc : Nat} {rk mid n i : Nat} {y : MethodName} {bytes : ByteArray} {ml : Nat} {ret : Option FieldType} (hi : q_inf mid = (y, (bytes, (ml, ret)))) (hd : decode cc pc = .ok (.invokestatic i, 3)) (h1 : Cond.methodLink own i y ∈ q_tw) (h2 : Cond.static y ∈ q_tw) (h3 : Cond.initialized y.cls ∈ q_tw) (h5 : Cond.code y bytes ml ret ∈ q_tw) (hy : y.cls ≠ "java/lang/invoke/MethodHandle" ∧ y.cls ≠ "java/lang/invoke/VarHandle") (hn : (parseMethodDescriptor y.desc).map (fun d => d.parameters.length) = some n) (hl40 : ml ≤ 40) : q_Snd sx own cc nL rt pc (o_cS rk mid ml n (pc + 3)) := by
  intro g p l e R s m args below meth c cells slots Q rm P hC ls st H hok
  obtain ⟨hx, hb, hml, hown, hts, hK, hX, hbl, hN, hJ, hR, hret⟩ := hC
  unfold o_cS
  split
  · rename_i as rest hpop
    obtain ⟨hst, hlen⟩ := q_pop_0 hpop
    refine q_callSp rfl (fun hg => by rw [hi]; exact (q_gd hg).1) hok hst (fun hg r hm Hh locs lsA hl hP hS => ?_)
    have hg := (q_gd hg).2
    unfold q_Met at hm
    rw [hi] at hm
    obtain ⟨hr1, hr2, hr3, hr4, hr5, hr6⟩ := hR
    refine ⟨_, va_runS (As := as.map (q_c g)) (rest := rest.map (q_c g)) (n := n) ⟨hx, hb, hml, hown, hts⟩ hm ⟨⟨hr1, hr2, hr3, by omega, pay_in hts (q_ws_good hi h5), q_ws_code hi, hts _ h5, hts _ h3, hy, fun sig h => ?_, hts _ h1⟩, hts _ h2⟩ ⟨q_blind g sx _, fun U hU hW => ⟨rfl, q_pre hK hX hbl hN hJ hP hS hU hW⟩⟩ rfl (by simp [hlen]) hl.1 ?_ ?_ hd ⟨by omega, by omega⟩⟩
    · rw [h] at hn
      exact (Option.some.inj hn).symm
    · show (st.map (q_c g)) = _
      rw [hst, List.map_append, List.map_reverse]
    · show 2 * 0 + _ ≤ 8
      rw [q_cats_eq]; omega
  · exact trivial
theorem s_cN {sx : QX} {own : String} {cc : ByteArray} {nL : Nat} {rt : Option FieldType} {pc : Nat} {rk mid n i : Nat} {host : String} {y : MethodName} {bytes : ByteArray} {ml : Nat} {ret : Option FieldType} (hi : q_inf mid = (y, (bytes, (ml, ret)))) (hd : decode cc pc = .ok (.invokestatic i, 3)) (h1 : Cond.methodLinkNest own i y host ∈ q_nests) (h2 : Cond.static y ∈ q_tw) (h3 : Cond.initialized y.cls ∈ q_tw) (h5 : Cond.code y bytes ml ret ∈ q_tw) (hy : y.cls ≠ "java/lang/invoke/MethodHandle" ∧ y.cls ≠ "java/lang/invoke/VarHandle") (hn : (parseMethodDescriptor y.desc).map (fun d => d.parameters.length) = some n) (hl40 : ml ≤ 40) : q_Snd sx own cc nL rt pc (o_cS rk mid ml n (pc + 3)) := by
  intro g p l e R s m args below meth c cells slots Q rm P hC ls st H hok
  obtain ⟨hx, hb, hml, hown, hts, hK, hX, hbl, hN, hJ, hR, hret⟩ := hC
  unfold o_cS
  split
  · rename_i as rest hpop
    obtain ⟨hst, hlen⟩ := q_pop_0 hpop
    refine q_callSp rfl (fun hg => by rw [hi]; exact (q_gd hg).1) hok hst (fun hg r hm Hh locs lsA hl hP hS => ?_)
    have hg := (q_gd hg).2
    unfold q_Met at hm
    rw [hi] at hm
    obtain ⟨hr1, hr2, hr3, hr4, hr5, hr6⟩ := hR
    refine ⟨_, va_runSN (host := host) (As := as.map (q_c g)) (rest := rest.map (q_c g)) (n := n) ⟨hx, hb, hml, hown, hts⟩ hm ⟨⟨⟨hr1, hr2, hr3, by omega, pay_in hts (q_ws_good hi h5), q_ws_code hi⟩, hts _ h5, hts _ h3, hy, fun sig h => ?_, va_Nw.use rfl (hN _ h1)⟩, hts _ h2, trivial⟩ ⟨q_blind g sx _, fun U hU hW => ⟨rfl, q_pre hK hX hbl hN hJ hP hS hU hW⟩⟩ rfl (by simp [hlen]) hl.1 ?_ ?_ hd ⟨by omega, by omega⟩⟩
    · rw [h] at hn
      exact (Option.some.inj hn).symm
    · show (st.map (q_c g)) = _
      rw [hst, List.map_append, List.map_reverse]
    · show 2 * 0 + _ ≤ 8
      rw [q_cats_eq]; omega
  · exact trivial
theorem s_cV {sx : QX} {own : String} {cc : ByteArray} {nL : Nat} {rt : Option FieldType} {pc : Nat} {rk ci mid n i : Nat} {T : u_T} {N : Nat} {y : MethodName} {bytes : ByteArray} {ml : Nat} {ret : Option FieldType} (hi : q_inf mid = (y, (bytes, (ml, ret)))) (hd : decode cc pc = .ok (.invokevirtual i, 3)) (hc : vwCl[ci]? = some (y.cls, T, N)) (h1 : Cond.methodLink own i y ∈ q_tw) (h2 : Cond.instanceMethod y ∈ q_tw) (h4 : Cond.selects y.cls y y ∈ q_tw) (h3 : Cond.initialized y.cls ∈ q_tw) (h5 : Cond.code y bytes ml ret ∈ q_tw) (hy : y.cls ≠ "java/lang/invoke/MethodHandle" ∧ y.cls ≠ "java/lang/invoke/VarHandle") (hn : (parseMethodDescriptor y.desc).map (fun d => d.parameters.length) = some n) (hl40 : ml ≤ 40) : q_Snd sx own cc nL rt pc (o_cV rk ci mid ml (n + 1) (pc + 3)) := by
  intro g p l e R s m args below meth c cells slots Q rm P hC ls st H hok
  obtain ⟨hx, hb, hml, hown, hts, hK, hX, hbl, hN, hJ, hR, hret⟩ := hC
  unfold o_cV
  split
  · rename_i k a as rest hpop
    obtain ⟨hst, hlen⟩ := q_pop_0 hpop
    refine q_callSp rfl (fun hg => by rw [hi]; exact (q_gd (q_gd0 hg).2).1) hok hst (fun hg r hm Hh locs lsA hl hP hS => ?_)
    cases hk : Nat.beq (q_cio k) ci with
    | false => rw [hk] at hg; cases hg
    | true =>
      rw [hk] at hg
      have hk1 : q_cio k = ci := Nat.eq_of_beq_eq_true hk
      have hci : ci < 8 := (List.getElem?_eq_some_iff.mp hc).1
      obtain ⟨hk2, hk3⟩ := q_cio_lt (by omega) hk1
      have hva : q_vd (.inr (.inr (k, a))) := hok.2 _ (by rw [show st = _ from hst]; simp)
      obtain ⟨hp, hsh⟩ := q_vd_at hva hk3 (by omega)
      have hcell := (q_wd_get g H hp).trans (by rw [q_en_obj hsh (by omega), hk1])
      have hg := (q_gd hg).2
      unfold q_Met at hm
      rw [hi] at hm
      obtain ⟨hr1, hr2, hr3, hr4, hr5, hr6⟩ := hR
      have hcv : ((.inr (.inr (k, a)) :: as : List QV)).map (q_c g) = Value.ref (q_ad g a) :: as.map (q_c g) := by
        show q_c g (.inr (.inr (k, a))) :: as.map (q_c g) = _
        rw [q_c_ref hk3]
      refine ⟨_, va_runV (C := y.cls) (b := q_ad g a) (As := as.map (q_c g)) (rest := rest.map (q_c g)) (n := n) ⟨hx, hb, hml, hown, hts⟩ hm ⟨⟨hr1, hr2, hr3, by omega, pay_in hts (q_ws_good hi h5), q_ws_code hi, hts _ h5, hts _ h3, hy, fun sig h => ?_, hts _ h1⟩, hts _ h2, hts _ h4⟩ ⟨q_blind g sx _, va_recv hK hP hc hcell, fun U hU hW => ⟨congrArg List.toArray hcv.symm, q_pre hK hX hbl hN hJ hP hS hU hW⟩⟩ rfl (by simp at hlen; simp [hlen]) hl.1 ?_ ?_ hd ⟨by omega, by omega⟩⟩
      · rw [h] at hn
        exact (Option.some.inj hn).symm
      · show (st.map (q_c g)) = _
        rw [hst, List.map_append, List.map_reverse, hcv]
        simp
      · show 2 * 0 + _ ≤ 8
        rw [q_cats_eq]; omega
  · exact trivial
theorem s_max {sx : QX} {own : String} {cc : ByteArray} {nL : Nat} {rt : Option FieldType} {pc : Nat} {i : Nat} (hd : decode cc pc = .ok (.invokestatic i, 3)) (h1 : Cond.methodLink own i Lib.Math.max.name ∈ q_tw) (h2 : Cond.static Lib.Math.max.name ∈ q_tw) (h3 : Cond.initialized "java/lang/Math" ∈ q_tw) (h5 : Cond.code Lib.Math.max.name Lib.Math.max.code 2 (some .int) ∈ q_tw) : q_Snd sx own cc nL rt pc (o_max (pc + 3)) := by
  intro g p l e R s m args below meth c cells slots Q rm P hC ls st H hok
  obtain ⟨hx, hb, hml, hown, hts, hK, hX, hbl, hN, hJ, hR, hret⟩ := hC
  unfold o_max
  split
  · rename_i y x st
    intro hg
    have hg := Nat.le_of_ble_eq_true hg
    obtain ⟨hr1, hr2, hr3, hr4, hr5, hr6⟩ := hR
    refine ⟨⟨hok.1, q_okS_cons (q_vI _) (q_okS_tl (q_okS_tl hok.2))⟩, fun kk Hh locs lsA hl hP hS => ?_⟩
    exact va_mmax hx hb (hml.trans hl.1.symm) hown (hts _ h1) (hts _ h2) (hts _ h3) (hts _ h5) (by omega) (by rw [q_cats_eq]; omega) hr5 hr6 hd (kk Hh locs lsA hl hP hS)
  · exact trivial
end
section
/-! the soundness of a run -/
def q_room (d : Nat) : Room := { frames := d, cells := 0, slots := 0, locals := 60 * d }
def q_TB (sx : QX) (tb : QT) : Prop := ∀ mid pc o, tb mid pc = some o → q_Snd sx (q_inf mid).1.cls (q_inf mid).2.1 (q_inf mid).2.2.1 (q_inf mid).2.2.2 pc o
theorem q_ok_cut {kp : QK} {mid : Nat} {t : QS} (h : q_ok t) : q_ok (q_cut kp mid t) := by
  unfold q_cut
  split
  · exact ⟨fun q hq => h.1 q (q_kp_mem hq), h.2⟩
  · exact h
theorem q_W_cut {g : QG} {p : Program} {l : Launch} {e : Env} {R : Room} {s : State} {m : MethodId} {args : Array Value} {below : List Frame} {meth : Method} {c : Code} {cells slots : Nat} {Q : State → Prop} {nL : Nat} {kp : QK} {mid : Nat} {t : QS} (h : q_W g p l e R s m args below meth c cells slots Q nL (q_cut kp mid t)) : q_W g p l e R s m args below meth c cells slots Q nL t := by
  intro Hh locs lsA hl hP hS
  unfold q_cut at h
  split at h
  · refine h Hh locs lsA (q_has_sub hl fun q hq => ?_) hP hS
    obtain ⟨r, hr, rfl⟩ := List.mem_map.mp hq
    exact List.mem_map.mpr ⟨r, q_kp_mem hr, rfl⟩
  · exact h Hh locs lsA hl hP hS
/-- from what the instructions say to what a run says: a run in a frame, its callees met -/
theorem q_run_ok {sx : QX} {g : QG} {p : Program} {l : Launch} {e : Env} {R : Room} {s : State} {m : MethodId} {args : Array Value} {below : List Frame} {meth : Method} {c : Code} {cells slots : Nat} {Q : State → Prop} {nL : Nat} {rm : Room} {P : QR → Prop} {r : QR} {t : QS} {Kc : QE → Option QR} {K : QS → Option QR} (hPr : P r) (hMc : ∀ f z, q_okE f → Kc f = some z → q_Met g sx l rm f z) (hK : ∀ u, q_ok u → K u = some r → q_W g p l e R s m args below meth c cells slots Q nL u) :
    ∀ (N : QN), q_Sp sx g p l e R s m args below meth c cells slots Q nL rm P t N → q_run Kc K N = some r → q_W g p l e R s m args below meth c cells slots Q nL t
  | none, _, h => by cases h
  | some (.inl (b, u)), hs, h => by
    obtain ⟨rfl, h2⟩ := q_cond h
    obtain ⟨h3, h4⟩ := hs rfl
    exact h4 (hK _ h3 h2)
  | some (.inr (.inl (b, (u, v)))), hs, h => by
    obtain ⟨h3, h4, h5⟩ := hs
    cases b with
    | true => exact h5 (fun _ => hK u (h3 rfl) h) (fun q => by cases q)
    | false => exact h5 (fun q => by cases q) (fun _ => hK v (h4 rfl) h)
  | some (.inr (.inr (.inl (b, z)))), hs, h => by
    obtain ⟨rfl, h2⟩ := q_cond h
    cases h2
    exact (hs rfl).2 hPr
  | some (.inr (.inr (.inr (.inl (b, (f, .inl k)))))), hs, h => by
    obtain ⟨rfl, h2⟩ := q_cond h
    obtain ⟨H', h3, h4⟩ := q_cV_some h2
    obtain ⟨h5, h6⟩ := hs rfl
    obtain ⟨h7, h8⟩ := h6 H'
    exact h8 (hMc _ _ h5 h3) (hK _ h7 h4)
  | some (.inr (.inr (.inr (.inl (b, (f, .inr (.inl k))))))), hs, h => by
    obtain ⟨rfl, h2⟩ := q_cond h
    obtain ⟨x, H', h3, h4⟩ := q_cI_some h2
    obtain ⟨h5, h6⟩ := hs rfl
    obtain ⟨h7, h8⟩ := h6 x H'
    exact h8 (hMc _ _ h5 h3) (hK _ h7 h4)
  | some (.inr (.inr (.inr (.inl (b, (f, .inr (.inr (k0, k5)))))))), hs, h => by
    obtain ⟨rfl, h2⟩ := q_cond h
    obtain ⟨h5, h6, h6'⟩ := hs rfl
    rcases q_cR_some h2 with ⟨y, H', h3, h4⟩ | ⟨y, H', h3, h4⟩
    · obtain ⟨h7, h8⟩ := h6 y H'
      exact h8 (hMc _ _ h5 h3) (hK _ h7 h4)
    · obtain ⟨h7, h8⟩ := h6' y H'
      exact h8 (hMc _ _ h5 h3) (fun hv => hK _ (h7 hv) h4)
  | some (.inr (.inr (.inr (.inr (x, (l9, d)))))), hs, h => by
    have h : q_sw K x d l9 = some r := h
    rw [q_sw_eq] at h
    obtain ⟨h3, h4⟩ := hs
    exact h4 (hK _ h3 h)
theorem q_plain : ∀ mid, plainName (q_inf mid).1.cls = true := by
  intro mid
  rcases Nat.lt_or_ge mid 178 with h | h
  · have : ∀ k, k < 178 → plainName (q_inf k).1.cls = true := by decide +kernel
    exact this mid h
  · have e : q_inf mid = (yL_law, (cL_law, (4, some .boolean))) := by
      unfold q_inf
      rw [List.getD_eq_getElem?_getD, List.getElem?_eq_none (show q_infl.length ≤ mid from h)]
      rfl
    rw [e]
    decide +kernel
theorem q_sound (sx : QX) (tb : QT) (kp : QK) (hTB : q_TB sx tb) (g : QG) (hJ : q_inj g) (l : Launch) : ∀ (n d mid : Nat) (t : QS) (r : QR), q_ev tb kp n (d + 1) mid t = some r → q_ok t →
    ∀ (p : Program) (e : Env) (R : Room) (s : State) (m : MethodId) (args : Array Value) (below : List Frame) (meth : Method) (c : Code) (cells slots : Nat) (Q : State → Prop) (P : QR → Prop), q_Cx sx g p l e R s m args below meth c cells slots Q (q_inf mid).1.cls (q_inf mid).2.1 (q_inf mid).2.2.1 (q_inf mid).2.2.2 (q_room d) P → P r → q_W g p l e R s m args below meth c cells slots Q (q_inf mid).2.2.1 t := by
  intro n
  induction n with
  | zero => intro d mid t r h; cases h
  | succ n ih =>
    intro d mid t r h hok p e R s m args below meth c cells slots Q P hC hPr
    have h : q_step tb (fun e => q_ev tb kp n d e.1 (0, (q_la 0 e.2.1, ([], e.2.2)))) (fun u => q_ev tb kp n (d + 1) mid (q_cut kp mid u)) mid t = some r := h
    unfold q_step at h
    split at h
    · rename_i o ho
      have hs := hTB _ _ _ ho g p l e R s m args below meth c cells slots Q (q_room d) P hC t.2.1 t.2.2.1 t.2.2.2 hok
      refine q_run_ok (rm := q_room d) (nL := (q_inf mid).2.2.1) hPr (fun f z hf hz => ?_) (fun u hu hz => ?_) _ hs h
      · cases d with
        | zero => cases n <;> cases hz
        | succ d =>
          have hok0 : q_ok (0, (q_la 0 f.2.1, ([], f.2.2))) := ⟨q_la_ok 0 _ hf.1, q_okS_nil⟩
          have key := ih d f.1 _ z hz hok0
          unfold q_Met
          refine Met.ofW (cc := (q_inf f.1).2.1) (maxL := (q_inf f.1).2.2.1) (ret := (q_inf f.1).2.2.2) (q_plain f.1) rfl ?_
          intro p e s m args below meth c s₁ B hml hv
          obtain ⟨rfl, hP, hK, hX, hN⟩ := hv
          have hts := atoms_spec (ws := q_ws f.1) B.pre
          have hX' := hX
          obtain ⟨scr, hscr, -⟩ := hX'
          have hbl : q_ad g 183 < s.heap.size := (Array.getElem?_eq_some_iff.mp hscr).1
          have W0 := key p e (headSpec (q_ws f.1) (q_room (d + 1))).room s m (f.2.1.map (q_c g)).toArray below meth c 0 0 (MQ below (q_Qc g z) (f.2.1.map (q_c g)).toArray s 0 0 (q_A g)) (fun r => r = z)
            ⟨B.exec, B.bytes, hml, findClass_of_methodNamed B.named, fun w hw => hts w (List.mem_cons_of_mem _ hw), hK, hX, hbl, hN, hJ, ⟨rfl, rfl, Nat.le_refl _, by show 60 + 60 * d ≤ 60 * (d + 1); omega, Nat.zero_le _, Nat.zero_le _⟩,
              ⟨fun pc x H Hh locs lsA ty hrt hn hd hPz hPh hS => ?_, fun pc H Hh locs lsA hrt hd hPz hPh hS => ?_, fun pc k q H Hh locs lsA C hrt hd hvd hPz hPh hS => ?_⟩⟩ rfl
          · have hl := lv_entry (f.2.1.map (q_c g)) (n := (q_inf f.1).2.2.1) ?_
            · rw [lg_entry_eq]
              refine W0 s.heap [] _ ?_ hP va_S.rf
              rw [q_la_map]
              exact hl
            · rw [q_sl_len]
              exact hf.2
          · subst hPz
            exact W.zret B.exec B.bytes (B.returns.trans hrt) hn (fun t ht _ => ⟨⟨fun v hv => by cases hv; exact trivial, rfl, by rw [ht]; exact hPh⟩, hS.F ht⟩) hS.2.2 hd B.notSynchronized
          · subst hPz
            exact W.vret B.exec B.bytes (B.returns.trans hrt) (fun t ht _ => ⟨⟨(fun v hv => by cases hv), rfl, by rw [ht]; exact hPh⟩, hS.F ht⟩) hS.2.2 hd B.notSynchronized
          · subst hPz
            refine W.aret B.exec B.bytes (B.returns.trans hrt) (Or.inl ⟨C, rfl⟩) ?_ (fun t ht _ => ⟨⟨fun v hv => by cases hv; exact hvd, rfl, by rw [ht]; exact hPh⟩, hS.F ht⟩) hS.2.2 hd B.notSynchronized
            cases k with
            | zero => exact Or.inl rfl
            | succ k => exact Or.inr ⟨_, rfl⟩
      · exact q_W_cut (ih d mid _ r hz (q_ok_cut hu) p e R s m args below meth c cells slots Q P hC hPr)
    · cases h
end
