section
-- ===== PART A: goes FIRST, ahead of the names: the tables' words, and 'selects' of the private methods out of them =====
/-- a private method of a class that the tables say can be made, by its rows of tables_1 -/
def lw_okq (q : MethodName × Nat) : Prop := (q.1.cls ≠ "java/lang/invoke/MethodHandle" ∧ q.1.cls ≠ "java/lang/invoke/VarHandle") ∧ Cond.instantiable q.1.cls q.2 ∈ tables_1 ∧ Cond.privateMethod q.1 ∈ tables_1 ∧ Cond.instanceMethod q.1 ∈ tables_1
theorem lw_p0 : lw_okq (⟨"SteamNations", "answer", "(I)I"⟩, 20) := ⟨⟨by decide +kernel, by decide +kernel⟩, List.mem_of_getElem? (i := 22) (by decide +kernel), List.mem_of_getElem? (i := 397) (by decide +kernel), List.mem_of_getElem? (i := 398) (by decide +kernel)⟩
theorem lw_p1 : lw_okq (⟨"SteamNations", "answerChanged", "(I)I"⟩, 20) := ⟨⟨by decide +kernel, by decide +kernel⟩, List.mem_of_getElem? (i := 22) (by decide +kernel), List.mem_of_getElem? (i := 409) (by decide +kernel), List.mem_of_getElem? (i := 410) (by decide +kernel)⟩
theorem lw_p2 : lw_okq (⟨"SteamNations$Steam", "sayWords", "(LSteamNations$Room;II)V"⟩, 3) := ⟨⟨by decide +kernel, by decide +kernel⟩, List.mem_of_getElem? (i := 214) (by decide +kernel), List.mem_of_getElem? (i := 454) (by decide +kernel), List.mem_of_getElem? (i := 455) (by decide +kernel)⟩
theorem lw_p3 : lw_okq (⟨"SteamNations$Machine", "wordAt", "(I)I"⟩, 2) := ⟨⟨by decide +kernel, by decide +kernel⟩, List.mem_of_getElem? (i := 161) (by decide +kernel), List.mem_of_getElem? (i := 475) (by decide +kernel), List.mem_of_getElem? (i := 476) (by decide +kernel)⟩
theorem lw_p4 : lw_okq (⟨"SteamNations", "putFour", "(I)V"⟩, 20) := ⟨⟨by decide +kernel, by decide +kernel⟩, List.mem_of_getElem? (i := 22) (by decide +kernel), List.mem_of_getElem? (i := 522) (by decide +kernel), List.mem_of_getElem? (i := 523) (by decide +kernel)⟩
theorem lw_p5 : lw_okq (⟨"SteamNations", "sitterFromTape", "(I)Z"⟩, 20) := ⟨⟨by decide +kernel, by decide +kernel⟩, List.mem_of_getElem? (i := 22) (by decide +kernel), List.mem_of_getElem? (i := 534) (by decide +kernel), List.mem_of_getElem? (i := 535) (by decide +kernel)⟩
theorem lw_p6 : lw_okq (⟨"SteamNations", "takeTape", "()I"⟩, 20) := ⟨⟨by decide +kernel, by decide +kernel⟩, List.mem_of_getElem? (i := 22) (by decide +kernel), List.mem_of_getElem? (i := 546) (by decide +kernel), List.mem_of_getElem? (i := 547) (by decide +kernel)⟩
theorem lw_p7 : lw_okq (⟨"SteamNations$Reader", "cut", "([II)V"⟩, 11) := ⟨⟨by decide +kernel, by decide +kernel⟩, List.mem_of_getElem? (i := 32) (by decide +kernel), List.mem_of_getElem? (i := 555) (by decide +kernel), List.mem_of_getElem? (i := 556) (by decide +kernel)⟩
theorem lw_p8 : lw_okq (⟨"SteamNations$Reader", "goOn", "()V"⟩, 11) := ⟨⟨by decide +kernel, by decide +kernel⟩, List.mem_of_getElem? (i := 32) (by decide +kernel), List.mem_of_getElem? (i := 620) (by decide +kernel), List.mem_of_getElem? (i := 621) (by decide +kernel)⟩
theorem lw_p9 : lw_okq (⟨"SteamNations$Reader", "readOrder", "(I)Z"⟩, 11) := ⟨⟨by decide +kernel, by decide +kernel⟩, List.mem_of_getElem? (i := 32) (by decide +kernel), List.mem_of_getElem? (i := 624) (by decide +kernel), List.mem_of_getElem? (i := 625) (by decide +kernel)⟩
theorem lw_p10 : lw_okq (⟨"SteamNations$Reader", "wrong", "()Z"⟩, 11) := ⟨⟨by decide +kernel, by decide +kernel⟩, List.mem_of_getElem? (i := 32) (by decide +kernel), List.mem_of_getElem? (i := 628) (by decide +kernel), List.mem_of_getElem? (i := 629) (by decide +kernel)⟩
theorem lw_p11 : lw_okq (⟨"SteamNations$Reader", "mark", "(III)V"⟩, 11) := ⟨⟨by decide +kernel, by decide +kernel⟩, List.mem_of_getElem? (i := 32) (by decide +kernel), List.mem_of_getElem? (i := 632) (by decide +kernel), List.mem_of_getElem? (i := 633) (by decide +kernel)⟩
theorem lw_p12 : lw_okq (⟨"SteamNations$Reader", "readSum", "(I)Z"⟩, 11) := ⟨⟨by decide +kernel, by decide +kernel⟩, List.mem_of_getElem? (i := 32) (by decide +kernel), List.mem_of_getElem? (i := 636) (by decide +kernel), List.mem_of_getElem? (i := 637) (by decide +kernel)⟩
theorem lw_p13 : lw_okq (⟨"SteamNations$Reader", "readTerm", "(I)Z"⟩, 11) := ⟨⟨by decide +kernel, by decide +kernel⟩, List.mem_of_getElem? (i := 32) (by decide +kernel), List.mem_of_getElem? (i := 640) (by decide +kernel), List.mem_of_getElem? (i := 641) (by decide +kernel)⟩
theorem lw_p14 : lw_okq (⟨"SteamNations$Reader", "readPart", "(I)Z"⟩, 11) := ⟨⟨by decide +kernel, by decide +kernel⟩, List.mem_of_getElem? (i := 32) (by decide +kernel), List.mem_of_getElem? (i := 644) (by decide +kernel), List.mem_of_getElem? (i := 645) (by decide +kernel)⟩
theorem lw_p15 : lw_okq (⟨"SteamNations$Reader", "isSign", "(C)Z"⟩, 11) := ⟨⟨by decide +kernel, by decide +kernel⟩, List.mem_of_getElem? (i := 32) (by decide +kernel), List.mem_of_getElem? (i := 648) (by decide +kernel), List.mem_of_getElem? (i := 649) (by decide +kernel)⟩
def lw_privs_1 : List (MethodName × Nat) := [(⟨"SteamNations", "answer", "(I)I"⟩, 20), (⟨"SteamNations", "answerChanged", "(I)I"⟩, 20), (⟨"SteamNations$Steam", "sayWords", "(LSteamNations$Room;II)V"⟩, 3), (⟨"SteamNations$Machine", "wordAt", "(I)I"⟩, 2), (⟨"SteamNations", "putFour", "(I)V"⟩, 20), (⟨"SteamNations", "sitterFromTape", "(I)Z"⟩, 20), (⟨"SteamNations", "takeTape", "()I"⟩, 20), (⟨"SteamNations$Reader", "cut", "([II)V"⟩, 11), (⟨"SteamNations$Reader", "goOn", "()V"⟩, 11), (⟨"SteamNations$Reader", "readOrder", "(I)Z"⟩, 11), (⟨"SteamNations$Reader", "wrong", "()Z"⟩, 11), (⟨"SteamNations$Reader", "mark", "(III)V"⟩, 11), (⟨"SteamNations$Reader", "readSum", "(I)Z"⟩, 11), (⟨"SteamNations$Reader", "readTerm", "(I)Z"⟩, 11), (⟨"SteamNations$Reader", "readPart", "(I)Z"⟩, 11), (⟨"SteamNations$Reader", "isSign", "(C)Z"⟩, 11)]
theorem lw_r1 : ∀ q ∈ lw_privs_1, lw_okq q := List.forall_mem_cons.mpr ⟨lw_p0, List.forall_mem_cons.mpr ⟨lw_p1, List.forall_mem_cons.mpr ⟨lw_p2, List.forall_mem_cons.mpr ⟨lw_p3, List.forall_mem_cons.mpr ⟨lw_p4, List.forall_mem_cons.mpr ⟨lw_p5, List.forall_mem_cons.mpr ⟨lw_p6, List.forall_mem_cons.mpr ⟨lw_p7, List.forall_mem_cons.mpr ⟨lw_p8, List.forall_mem_cons.mpr ⟨lw_p9, List.forall_mem_cons.mpr ⟨lw_p10, List.forall_mem_cons.mpr ⟨lw_p11, List.forall_mem_cons.mpr ⟨lw_p12, List.forall_mem_cons.mpr ⟨lw_p13, List.forall_mem_cons.mpr ⟨lw_p14, List.forall_mem_cons.mpr ⟨lw_p15, fun _ h => absurd h List.not_mem_nil⟩⟩⟩⟩⟩⟩⟩⟩⟩⟩⟩⟩⟩⟩⟩⟩
theorem lw_p16 : lw_okq (⟨"SteamNations$Reader", "canOpen", "(I)Z"⟩, 11) := ⟨⟨by decide +kernel, by decide +kernel⟩, List.mem_of_getElem? (i := 32) (by decide +kernel), List.mem_of_getElem? (i := 652) (by decide +kernel), List.mem_of_getElem? (i := 653) (by decide +kernel)⟩
theorem lw_p17 : lw_okq (⟨"SteamNations$Reader", "takeSign", "(C)Z"⟩, 11) := ⟨⟨by decide +kernel, by decide +kernel⟩, List.mem_of_getElem? (i := 32) (by decide +kernel), List.mem_of_getElem? (i := 656) (by decide +kernel), List.mem_of_getElem? (i := 657) (by decide +kernel)⟩
theorem lw_p18 : lw_okq (⟨"SteamNations$Reader", "numberHere", "()I"⟩, 11) := ⟨⟨by decide +kernel, by decide +kernel⟩, List.mem_of_getElem? (i := 32) (by decide +kernel), List.mem_of_getElem? (i := 660) (by decide +kernel), List.mem_of_getElem? (i := 661) (by decide +kernel)⟩
theorem lw_p19 : lw_okq (⟨"SteamNations$Reader", "readOrdersWord", "()Z"⟩, 11) := ⟨⟨by decide +kernel, by decide +kernel⟩, List.mem_of_getElem? (i := 32) (by decide +kernel), List.mem_of_getElem? (i := 664) (by decide +kernel), List.mem_of_getElem? (i := 665) (by decide +kernel)⟩
theorem lw_p20 : lw_okq (⟨"SteamNations$Reader", "put", "(II)I"⟩, 11) := ⟨⟨by decide +kernel, by decide +kernel⟩, List.mem_of_getElem? (i := 32) (by decide +kernel), List.mem_of_getElem? (i := 668) (by decide +kernel), List.mem_of_getElem? (i := 669) (by decide +kernel)⟩
theorem lw_p21 : lw_okq (⟨"SteamNations$Reader", "readLawWord", "()Z"⟩, 11) := ⟨⟨by decide +kernel, by decide +kernel⟩, List.mem_of_getElem? (i := 32) (by decide +kernel), List.mem_of_getElem? (i := 672) (by decide +kernel), List.mem_of_getElem? (i := 673) (by decide +kernel)⟩
theorem lw_p22 : lw_okq (⟨"SteamNations$Reader", "takeIf", "(I)Z"⟩, 11) := ⟨⟨by decide +kernel, by decide +kernel⟩, List.mem_of_getElem? (i := 32) (by decide +kernel), List.mem_of_getElem? (i := 676) (by decide +kernel), List.mem_of_getElem? (i := 677) (by decide +kernel)⟩
theorem lw_p23 : lw_okq (⟨"SteamNations$Reader", "readTimes", "(I)Z"⟩, 11) := ⟨⟨by decide +kernel, by decide +kernel⟩, List.mem_of_getElem? (i := 32) (by decide +kernel), List.mem_of_getElem? (i := 680) (by decide +kernel), List.mem_of_getElem? (i := 681) (by decide +kernel)⟩
theorem lw_p24 : lw_okq (⟨"SteamNations$Reader", "readRule", "(I)Z"⟩, 11) := ⟨⟨by decide +kernel, by decide +kernel⟩, List.mem_of_getElem? (i := 32) (by decide +kernel), List.mem_of_getElem? (i := 684) (by decide +kernel), List.mem_of_getElem? (i := 685) (by decide +kernel)⟩
theorem lw_p25 : lw_okq (⟨"SteamNations$Reader", "readIf", "(I)Z"⟩, 11) := ⟨⟨by decide +kernel, by decide +kernel⟩, List.mem_of_getElem? (i := 32) (by decide +kernel), List.mem_of_getElem? (i := 688) (by decide +kernel), List.mem_of_getElem? (i := 689) (by decide +kernel)⟩
theorem lw_p26 : lw_okq (⟨"SteamNations$Reader", "readTest", "(I)Z"⟩, 11) := ⟨⟨by decide +kernel, by decide +kernel⟩, List.mem_of_getElem? (i := 32) (by decide +kernel), List.mem_of_getElem? (i := 692) (by decide +kernel), List.mem_of_getElem? (i := 693) (by decide +kernel)⟩
theorem lw_p27 : lw_okq (⟨"SteamNations$Reader", "readBoth", "(I)Z"⟩, 11) := ⟨⟨by decide +kernel, by decide +kernel⟩, List.mem_of_getElem? (i := 32) (by decide +kernel), List.mem_of_getElem? (i := 696) (by decide +kernel), List.mem_of_getElem? (i := 697) (by decide +kernel)⟩
theorem lw_p28 : lw_okq (⟨"SteamNations$Reader", "readPlain", "(I)Z"⟩, 11) := ⟨⟨by decide +kernel, by decide +kernel⟩, List.mem_of_getElem? (i := 32) (by decide +kernel), List.mem_of_getElem? (i := 700) (by decide +kernel), List.mem_of_getElem? (i := 701) (by decide +kernel)⟩
theorem lw_p29 : lw_okq (⟨"SteamNations$Reader", "readComparison", "(I)Z"⟩, 11) := ⟨⟨by decide +kernel, by decide +kernel⟩, List.mem_of_getElem? (i := 32) (by decide +kernel), List.mem_of_getElem? (i := 704) (by decide +kernel), List.mem_of_getElem? (i := 705) (by decide +kernel)⟩
theorem lw_p30 : lw_okq (⟨"SteamNations$Reader", "land", "(I)V"⟩, 11) := ⟨⟨by decide +kernel, by decide +kernel⟩, List.mem_of_getElem? (i := 32) (by decide +kernel), List.mem_of_getElem? (i := 708) (by decide +kernel), List.mem_of_getElem? (i := 709) (by decide +kernel)⟩
theorem lw_p31 : lw_okq (⟨"SteamNations$Errands", "sayWords", "(LSteamNations$Room;)V"⟩, 7) := ⟨⟨by decide +kernel, by decide +kernel⟩, List.mem_of_getElem? (i := 248) (by decide +kernel), List.mem_of_getElem? (i := 749) (by decide +kernel), List.mem_of_getElem? (i := 750) (by decide +kernel)⟩
def lw_privs_2 : List (MethodName × Nat) := [(⟨"SteamNations$Reader", "canOpen", "(I)Z"⟩, 11), (⟨"SteamNations$Reader", "takeSign", "(C)Z"⟩, 11), (⟨"SteamNations$Reader", "numberHere", "()I"⟩, 11), (⟨"SteamNations$Reader", "readOrdersWord", "()Z"⟩, 11), (⟨"SteamNations$Reader", "put", "(II)I"⟩, 11), (⟨"SteamNations$Reader", "readLawWord", "()Z"⟩, 11), (⟨"SteamNations$Reader", "takeIf", "(I)Z"⟩, 11), (⟨"SteamNations$Reader", "readTimes", "(I)Z"⟩, 11), (⟨"SteamNations$Reader", "readRule", "(I)Z"⟩, 11), (⟨"SteamNations$Reader", "readIf", "(I)Z"⟩, 11), (⟨"SteamNations$Reader", "readTest", "(I)Z"⟩, 11), (⟨"SteamNations$Reader", "readBoth", "(I)Z"⟩, 11), (⟨"SteamNations$Reader", "readPlain", "(I)Z"⟩, 11), (⟨"SteamNations$Reader", "readComparison", "(I)Z"⟩, 11), (⟨"SteamNations$Reader", "land", "(I)V"⟩, 11), (⟨"SteamNations$Errands", "sayWords", "(LSteamNations$Room;)V"⟩, 7)]
theorem lw_r2 : ∀ q ∈ lw_privs_2, lw_okq q := List.forall_mem_cons.mpr ⟨lw_p16, List.forall_mem_cons.mpr ⟨lw_p17, List.forall_mem_cons.mpr ⟨lw_p18, List.forall_mem_cons.mpr ⟨lw_p19, List.forall_mem_cons.mpr ⟨lw_p20, List.forall_mem_cons.mpr ⟨lw_p21, List.forall_mem_cons.mpr ⟨lw_p22, List.forall_mem_cons.mpr ⟨lw_p23, List.forall_mem_cons.mpr ⟨lw_p24, List.forall_mem_cons.mpr ⟨lw_p25, List.forall_mem_cons.mpr ⟨lw_p26, List.forall_mem_cons.mpr ⟨lw_p27, List.forall_mem_cons.mpr ⟨lw_p28, List.forall_mem_cons.mpr ⟨lw_p29, List.forall_mem_cons.mpr ⟨lw_p30, List.forall_mem_cons.mpr ⟨lw_p31, fun _ h => absurd h List.not_mem_nil⟩⟩⟩⟩⟩⟩⟩⟩⟩⟩⟩⟩⟩⟩⟩⟩
theorem lw_p32 : lw_okq (⟨"SteamNations$Errands", "canMove", "(LSteamNations$Text;I)Z"⟩, 7) := ⟨⟨by decide +kernel, by decide +kernel⟩, List.mem_of_getElem? (i := 248) (by decide +kernel), List.mem_of_getElem? (i := 769) (by decide +kernel), List.mem_of_getElem? (i := 770) (by decide +kernel)⟩
theorem lw_p33 : lw_okq (⟨"SteamNations$Steam", "seeWho", "(LSteamNations$Room;)V"⟩, 3) := ⟨⟨by decide +kernel, by decide +kernel⟩, List.mem_of_getElem? (i := 214) (by decide +kernel), List.mem_of_getElem? (i := 807) (by decide +kernel), List.mem_of_getElem? (i := 808) (by decide +kernel)⟩
theorem lw_p34 : lw_okq (⟨"SteamNations$Steam", "whoBeside", "(II)I"⟩, 3) := ⟨⟨by decide +kernel, by decide +kernel⟩, List.mem_of_getElem? (i := 214) (by decide +kernel), List.mem_of_getElem? (i := 812) (by decide +kernel), List.mem_of_getElem? (i := 813) (by decide +kernel)⟩
theorem lw_p35 : lw_okq (⟨"SteamNations", "playOnPaper", "(LSteamNations$Text;I)V"⟩, 20) := ⟨⟨by decide +kernel, by decide +kernel⟩, List.mem_of_getElem? (i := 22) (by decide +kernel), List.mem_of_getElem? (i := 867) (by decide +kernel), List.mem_of_getElem? (i := 868) (by decide +kernel)⟩
theorem lw_p36 : lw_okq (⟨"SteamNations$Seatings", "listInside", "(LSteamNations$Room;)V"⟩, 12) := ⟨⟨by decide +kernel, by decide +kernel⟩, List.mem_of_getElem? (i := 281) (by decide +kernel), List.mem_of_getElem? (i := 896) (by decide +kernel), List.mem_of_getElem? (i := 897) (by decide +kernel)⟩
theorem lw_p37 : lw_okq (⟨"SteamNations$Seatings", "playSeating", "(LSteamNations$Room;LSteamNations$Text;II)V"⟩, 12) := ⟨⟨by decide +kernel, by decide +kernel⟩, List.mem_of_getElem? (i := 281) (by decide +kernel), List.mem_of_getElem? (i := 902) (by decide +kernel), List.mem_of_getElem? (i := 903) (by decide +kernel)⟩
theorem lw_p38 : lw_okq (⟨"SteamNations$Seatings", "toNextOrder", "()Z"⟩, 12) := ⟨⟨by decide +kernel, by decide +kernel⟩, List.mem_of_getElem? (i := 281) (by decide +kernel), List.mem_of_getElem? (i := 912) (by decide +kernel), List.mem_of_getElem? (i := 913) (by decide +kernel)⟩
theorem lw_p39 : lw_okq (⟨"SteamNations$Seatings", "exchangePlaces", "(II)V"⟩, 12) := ⟨⟨by decide +kernel, by decide +kernel⟩, List.mem_of_getElem? (i := 281) (by decide +kernel), List.mem_of_getElem? (i := 916) (by decide +kernel), List.mem_of_getElem? (i := 917) (by decide +kernel)⟩
theorem lw_p40 : lw_okq (⟨"SteamNations$Seatings", "nationIn", "(III)I"⟩, 12) := ⟨⟨by decide +kernel, by decide +kernel⟩, List.mem_of_getElem? (i := 281) (by decide +kernel), List.mem_of_getElem? (i := 928) (by decide +kernel), List.mem_of_getElem? (i := 929) (by decide +kernel)⟩
theorem lw_p41 : lw_okq (⟨"SteamNations$Seatings", "isSeating", "(I)Z"⟩, 12) := ⟨⟨by decide +kernel, by decide +kernel⟩, List.mem_of_getElem? (i := 281) (by decide +kernel), List.mem_of_getElem? (i := 938) (by decide +kernel), List.mem_of_getElem? (i := 939) (by decide +kernel)⟩
theorem lw_p42 : lw_okq (⟨"SteamNations$Seatings", "reachFrom", "(II)I"⟩, 12) := ⟨⟨by decide +kernel, by decide +kernel⟩, List.mem_of_getElem? (i := 281) (by decide +kernel), List.mem_of_getElem? (i := 954) (by decide +kernel), List.mem_of_getElem? (i := 955) (by decide +kernel)⟩
theorem lw_p43 : lw_okq (⟨"SteamNations$Seatings", "canExchange", "(III)Z"⟩, 12) := ⟨⟨by decide +kernel, by decide +kernel⟩, List.mem_of_getElem? (i := 281) (by decide +kernel), List.mem_of_getElem? (i := 958) (by decide +kernel), List.mem_of_getElem? (i := 959) (by decide +kernel)⟩
theorem lw_p44 : lw_okq (⟨"SteamNations$Seatings", "rankOf", "(I)I"⟩, 12) := ⟨⟨by decide +kernel, by decide +kernel⟩, List.mem_of_getElem? (i := 281) (by decide +kernel), List.mem_of_getElem? (i := 966) (by decide +kernel), List.mem_of_getElem? (i := 967) (by decide +kernel)⟩
theorem lw_p45 : lw_okq (⟨"SteamNations$Seatings", "farOf", "(I)I"⟩, 12) := ⟨⟨by decide +kernel, by decide +kernel⟩, List.mem_of_getElem? (i := 281) (by decide +kernel), List.mem_of_getElem? (i := 974) (by decide +kernel), List.mem_of_getElem? (i := 975) (by decide +kernel)⟩
theorem lw_p46 : lw_okq (⟨"SteamNations$Seatings", "fits", "(LSteamNations$House;I)Z"⟩, 12) := ⟨⟨by decide +kernel, by decide +kernel⟩, List.mem_of_getElem? (i := 281) (by decide +kernel), List.mem_of_getElem? (i := 1011) (by decide +kernel), List.mem_of_getElem? (i := 1012) (by decide +kernel)⟩
theorem lw_p47 : lw_okq (⟨"SteamNations$Room", "inCommon", "(II)I"⟩, 5) := ⟨⟨by decide +kernel, by decide +kernel⟩, List.mem_of_getElem? (i := 92) (by decide +kernel), List.mem_of_getElem? (i := 1053) (by decide +kernel), List.mem_of_getElem? (i := 1054) (by decide +kernel)⟩
def lw_privs_3 : List (MethodName × Nat) := [(⟨"SteamNations$Errands", "canMove", "(LSteamNations$Text;I)Z"⟩, 7), (⟨"SteamNations$Steam", "seeWho", "(LSteamNations$Room;)V"⟩, 3), (⟨"SteamNations$Steam", "whoBeside", "(II)I"⟩, 3), (⟨"SteamNations", "playOnPaper", "(LSteamNations$Text;I)V"⟩, 20), (⟨"SteamNations$Seatings", "listInside", "(LSteamNations$Room;)V"⟩, 12), (⟨"SteamNations$Seatings", "playSeating", "(LSteamNations$Room;LSteamNations$Text;II)V"⟩, 12), (⟨"SteamNations$Seatings", "toNextOrder", "()Z"⟩, 12), (⟨"SteamNations$Seatings", "exchangePlaces", "(II)V"⟩, 12), (⟨"SteamNations$Seatings", "nationIn", "(III)I"⟩, 12), (⟨"SteamNations$Seatings", "isSeating", "(I)Z"⟩, 12), (⟨"SteamNations$Seatings", "reachFrom", "(II)I"⟩, 12), (⟨"SteamNations$Seatings", "canExchange", "(III)Z"⟩, 12), (⟨"SteamNations$Seatings", "rankOf", "(I)I"⟩, 12), (⟨"SteamNations$Seatings", "farOf", "(I)I"⟩, 12), (⟨"SteamNations$Seatings", "fits", "(LSteamNations$House;I)Z"⟩, 12), (⟨"SteamNations$Room", "inCommon", "(II)I"⟩, 5)]
theorem lw_r3 : ∀ q ∈ lw_privs_3, lw_okq q := List.forall_mem_cons.mpr ⟨lw_p32, List.forall_mem_cons.mpr ⟨lw_p33, List.forall_mem_cons.mpr ⟨lw_p34, List.forall_mem_cons.mpr ⟨lw_p35, List.forall_mem_cons.mpr ⟨lw_p36, List.forall_mem_cons.mpr ⟨lw_p37, List.forall_mem_cons.mpr ⟨lw_p38, List.forall_mem_cons.mpr ⟨lw_p39, List.forall_mem_cons.mpr ⟨lw_p40, List.forall_mem_cons.mpr ⟨lw_p41, List.forall_mem_cons.mpr ⟨lw_p42, List.forall_mem_cons.mpr ⟨lw_p43, List.forall_mem_cons.mpr ⟨lw_p44, List.forall_mem_cons.mpr ⟨lw_p45, List.forall_mem_cons.mpr ⟨lw_p46, List.forall_mem_cons.mpr ⟨lw_p47, fun _ h => absurd h List.not_mem_nil⟩⟩⟩⟩⟩⟩⟩⟩⟩⟩⟩⟩⟩⟩⟩⟩
theorem lw_p48 : lw_okq (⟨"SteamNations", "spreadDrops", "(LSteamNations$Room;)V"⟩, 20) := ⟨⟨by decide +kernel, by decide +kernel⟩, List.mem_of_getElem? (i := 22) (by decide +kernel), List.mem_of_getElem? (i := 1064) (by decide +kernel), List.mem_of_getElem? (i := 1065) (by decide +kernel)⟩
theorem lw_p49 : lw_okq (⟨"SteamNations", "moveByDraw", "(III)V"⟩, 20) := ⟨⟨by decide +kernel, by decide +kernel⟩, List.mem_of_getElem? (i := 22) (by decide +kernel), List.mem_of_getElem? (i := 1093) (by decide +kernel), List.mem_of_getElem? (i := 1094) (by decide +kernel)⟩
theorem lw_p50 : lw_okq (⟨"SteamNationsModel", "refuses", "(I)I"⟩, 56) := ⟨⟨by decide +kernel, by decide +kernel⟩, List.mem_of_getElem? (i := 1128) (by decide +kernel), List.mem_of_getElem? (i := 1310) (by decide +kernel), List.mem_of_getElem? (i := 1311) (by decide +kernel)⟩
theorem lw_p51 : lw_okq (⟨"SteamNationsModel", "good", "(I)I"⟩, 56) := ⟨⟨by decide +kernel, by decide +kernel⟩, List.mem_of_getElem? (i := 1128) (by decide +kernel), List.mem_of_getElem? (i := 1314) (by decide +kernel), List.mem_of_getElem? (i := 1315) (by decide +kernel)⟩
theorem lw_p52 : lw_okq (⟨"SteamNationsModel", "settled", "(I)I"⟩, 56) := ⟨⟨by decide +kernel, by decide +kernel⟩, List.mem_of_getElem? (i := 1128) (by decide +kernel), List.mem_of_getElem? (i := 1322) (by decide +kernel), List.mem_of_getElem? (i := 1323) (by decide +kernel)⟩
theorem lw_p53 : lw_okq (⟨"SteamNationsModel", "many", "()I"⟩, 56) := ⟨⟨by decide +kernel, by decide +kernel⟩, List.mem_of_getElem? (i := 1128) (by decide +kernel), List.mem_of_getElem? (i := 1336) (by decide +kernel), List.mem_of_getElem? (i := 1337) (by decide +kernel)⟩
theorem lw_p54 : lw_okq (⟨"SteamNationsModel", "adds", "(IIII)V"⟩, 56) := ⟨⟨by decide +kernel, by decide +kernel⟩, List.mem_of_getElem? (i := 1128) (by decide +kernel), List.mem_of_getElem? (i := 1340) (by decide +kernel), List.mem_of_getElem? (i := 1341) (by decide +kernel)⟩
theorem lw_p55 : lw_okq (⟨"SteamNationsModel", "isSitter", "(I)Z"⟩, 56) := ⟨⟨by decide +kernel, by decide +kernel⟩, List.mem_of_getElem? (i := 1128) (by decide +kernel), List.mem_of_getElem? (i := 1348) (by decide +kernel), List.mem_of_getElem? (i := 1349) (by decide +kernel)⟩
theorem lw_p56 : lw_okq (⟨"SteamNationsModel", "partsOf", "(II)I"⟩, 56) := ⟨⟨by decide +kernel, by decide +kernel⟩, List.mem_of_getElem? (i := 1128) (by decide +kernel), List.mem_of_getElem? (i := 1352) (by decide +kernel), List.mem_of_getElem? (i := 1353) (by decide +kernel)⟩
theorem lw_p57 : lw_okq (⟨"SteamNationsModel", "seatOf", "(I)I"⟩, 56) := ⟨⟨by decide +kernel, by decide +kernel⟩, List.mem_of_getElem? (i := 1128) (by decide +kernel), List.mem_of_getElem? (i := 1356) (by decide +kernel), List.mem_of_getElem? (i := 1357) (by decide +kernel)⟩
theorem lw_p58 : lw_okq (⟨"SteamNationsModel", "nationOf", "(I)I"⟩, 56) := ⟨⟨by decide +kernel, by decide +kernel⟩, List.mem_of_getElem? (i := 1128) (by decide +kernel), List.mem_of_getElem? (i := 1360) (by decide +kernel), List.mem_of_getElem? (i := 1361) (by decide +kernel)⟩
theorem lw_p59 : lw_okq (⟨"SteamNationsModel", "isInside", "(I)Z"⟩, 56) := ⟨⟨by decide +kernel, by decide +kernel⟩, List.mem_of_getElem? (i := 1128) (by decide +kernel), List.mem_of_getElem? (i := 1364) (by decide +kernel), List.mem_of_getElem? (i := 1365) (by decide +kernel)⟩
theorem lw_p60 : lw_okq (⟨"SteamNationsModel", "tells", "(III)I"⟩, 56) := ⟨⟨by decide +kernel, by decide +kernel⟩, List.mem_of_getElem? (i := 1128) (by decide +kernel), List.mem_of_getElem? (i := 1368) (by decide +kernel), List.mem_of_getElem? (i := 1369) (by decide +kernel)⟩
theorem lw_p61 : lw_okq (⟨"SteamNationsModel", "setsAsked", "(II)V"⟩, 56) := ⟨⟨by decide +kernel, by decide +kernel⟩, List.mem_of_getElem? (i := 1128) (by decide +kernel), List.mem_of_getElem? (i := 1372) (by decide +kernel), List.mem_of_getElem? (i := 1373) (by decide +kernel)⟩
theorem lw_p62 : lw_okq (⟨"SteamNationsModel", "codeAt", "(I)I"⟩, 56) := ⟨⟨by decide +kernel, by decide +kernel⟩, List.mem_of_getElem? (i := 1128) (by decide +kernel), List.mem_of_getElem? (i := 1377) (by decide +kernel), List.mem_of_getElem? (i := 1378) (by decide +kernel)⟩
theorem lw_p63 : lw_okq (⟨"SteamNationsModel", "sumOf", "(Z)J"⟩, 56) := ⟨⟨by decide +kernel, by decide +kernel⟩, List.mem_of_getElem? (i := 1128) (by decide +kernel), List.mem_of_getElem? (i := 1381) (by decide +kernel), List.mem_of_getElem? (i := 1382) (by decide +kernel)⟩
def lw_privs_4 : List (MethodName × Nat) := [(⟨"SteamNations", "spreadDrops", "(LSteamNations$Room;)V"⟩, 20), (⟨"SteamNations", "moveByDraw", "(III)V"⟩, 20), (⟨"SteamNationsModel", "refuses", "(I)I"⟩, 56), (⟨"SteamNationsModel", "good", "(I)I"⟩, 56), (⟨"SteamNationsModel", "settled", "(I)I"⟩, 56), (⟨"SteamNationsModel", "many", "()I"⟩, 56), (⟨"SteamNationsModel", "adds", "(IIII)V"⟩, 56), (⟨"SteamNationsModel", "isSitter", "(I)Z"⟩, 56), (⟨"SteamNationsModel", "partsOf", "(II)I"⟩, 56), (⟨"SteamNationsModel", "seatOf", "(I)I"⟩, 56), (⟨"SteamNationsModel", "nationOf", "(I)I"⟩, 56), (⟨"SteamNationsModel", "isInside", "(I)Z"⟩, 56), (⟨"SteamNationsModel", "tells", "(III)I"⟩, 56), (⟨"SteamNationsModel", "setsAsked", "(II)V"⟩, 56), (⟨"SteamNationsModel", "codeAt", "(I)I"⟩, 56), (⟨"SteamNationsModel", "sumOf", "(Z)J"⟩, 56)]
theorem lw_r4 : ∀ q ∈ lw_privs_4, lw_okq q := List.forall_mem_cons.mpr ⟨lw_p48, List.forall_mem_cons.mpr ⟨lw_p49, List.forall_mem_cons.mpr ⟨lw_p50, List.forall_mem_cons.mpr ⟨lw_p51, List.forall_mem_cons.mpr ⟨lw_p52, List.forall_mem_cons.mpr ⟨lw_p53, List.forall_mem_cons.mpr ⟨lw_p54, List.forall_mem_cons.mpr ⟨lw_p55, List.forall_mem_cons.mpr ⟨lw_p56, List.forall_mem_cons.mpr ⟨lw_p57, List.forall_mem_cons.mpr ⟨lw_p58, List.forall_mem_cons.mpr ⟨lw_p59, List.forall_mem_cons.mpr ⟨lw_p60, List.forall_mem_cons.mpr ⟨lw_p61, List.forall_mem_cons.mpr ⟨lw_p62, List.forall_mem_cons.mpr ⟨lw_p63, fun _ h => absurd h List.not_mem_nil⟩⟩⟩⟩⟩⟩⟩⟩⟩⟩⟩⟩⟩⟩⟩⟩
theorem lw_p64 : lw_okq (⟨"SteamNationsModel", "termOf", "(Z)J"⟩, 56) := ⟨⟨by decide +kernel, by decide +kernel⟩, List.mem_of_getElem? (i := 1128) (by decide +kernel), List.mem_of_getElem? (i := 1385) (by decide +kernel), List.mem_of_getElem? (i := 1386) (by decide +kernel)⟩
theorem lw_p65 : lw_okq (⟨"SteamNationsModel", "partOf", "(Z)J"⟩, 56) := ⟨⟨by decide +kernel, by decide +kernel⟩, List.mem_of_getElem? (i := 1128) (by decide +kernel), List.mem_of_getElem? (i := 1389) (by decide +kernel), List.mem_of_getElem? (i := 1390) (by decide +kernel)⟩
theorem lw_p66 : lw_okq (⟨"SteamNationsModel", "passes0", "(I)Z"⟩, 56) := ⟨⟨by decide +kernel, by decide +kernel⟩, List.mem_of_getElem? (i := 1128) (by decide +kernel), List.mem_of_getElem? (i := 1396) (by decide +kernel), List.mem_of_getElem? (i := 1397) (by decide +kernel)⟩
theorem lw_p67 : lw_okq (⟨"SteamNationsModel", "orderValue", "(II)I"⟩, 56) := ⟨⟨by decide +kernel, by decide +kernel⟩, List.mem_of_getElem? (i := 1128) (by decide +kernel), List.mem_of_getElem? (i := 1400) (by decide +kernel), List.mem_of_getElem? (i := 1401) (by decide +kernel)⟩
theorem lw_p68 : lw_okq (⟨"SteamNationsModel", "insideMany", "()I"⟩, 56) := ⟨⟨by decide +kernel, by decide +kernel⟩, List.mem_of_getElem? (i := 1128) (by decide +kernel), List.mem_of_getElem? (i := 1404) (by decide +kernel), List.mem_of_getElem? (i := 1405) (by decide +kernel)⟩
theorem lw_p69 : lw_okq (⟨"SteamNationsModel", "pleasedMany", "()I"⟩, 56) := ⟨⟨by decide +kernel, by decide +kernel⟩, List.mem_of_getElem? (i := 1128) (by decide +kernel), List.mem_of_getElem? (i := 1408) (by decide +kernel), List.mem_of_getElem? (i := 1409) (by decide +kernel)⟩
theorem lw_p70 : lw_okq (⟨"SteamNationsModel", "bounded", "(JZ)J"⟩, 56) := ⟨⟨by decide +kernel, by decide +kernel⟩, List.mem_of_getElem? (i := 1128) (by decide +kernel), List.mem_of_getElem? (i := 1412) (by decide +kernel), List.mem_of_getElem? (i := 1413) (by decide +kernel)⟩
theorem lw_p71 : lw_okq (⟨"SteamNationsModel", "testOf", "(Z)Z"⟩, 56) := ⟨⟨by decide +kernel, by decide +kernel⟩, List.mem_of_getElem? (i := 1128) (by decide +kernel), List.mem_of_getElem? (i := 1418) (by decide +kernel), List.mem_of_getElem? (i := 1419) (by decide +kernel)⟩
theorem lw_p72 : lw_okq (⟨"SteamNationsModel", "bothOf", "(Z)Z"⟩, 56) := ⟨⟨by decide +kernel, by decide +kernel⟩, List.mem_of_getElem? (i := 1128) (by decide +kernel), List.mem_of_getElem? (i := 1422) (by decide +kernel), List.mem_of_getElem? (i := 1423) (by decide +kernel)⟩
theorem lw_p73 : lw_okq (⟨"SteamNationsModel", "plainOf", "(Z)Z"⟩, 56) := ⟨⟨by decide +kernel, by decide +kernel⟩, List.mem_of_getElem? (i := 1128) (by decide +kernel), List.mem_of_getElem? (i := 1426) (by decide +kernel), List.mem_of_getElem? (i := 1427) (by decide +kernel)⟩
theorem lw_p74 : lw_okq (⟨"SteamNationsModel", "positiveOf", "(Z)Z"⟩, 56) := ⟨⟨by decide +kernel, by decide +kernel⟩, List.mem_of_getElem? (i := 1128) (by decide +kernel), List.mem_of_getElem? (i := 1430) (by decide +kernel), List.mem_of_getElem? (i := 1431) (by decide +kernel)⟩
theorem lw_p75 : lw_okq (⟨"SteamNationsModel", "onSeat", "(I)I"⟩, 56) := ⟨⟨by decide +kernel, by decide +kernel⟩, List.mem_of_getElem? (i := 1128) (by decide +kernel), List.mem_of_getElem? (i := 1442) (by decide +kernel), List.mem_of_getElem? (i := 1443) (by decide +kernel)⟩
theorem lw_p76 : lw_okq (⟨"SteamNationsModel", "givesTo", "(II)I"⟩, 56) := ⟨⟨by decide +kernel, by decide +kernel⟩, List.mem_of_getElem? (i := 1128) (by decide +kernel), List.mem_of_getElem? (i := 1453) (by decide +kernel), List.mem_of_getElem? (i := 1454) (by decide +kernel)⟩
theorem lw_p77 : lw_okq (⟨"SteamNationsModel", "readsAs", "(Z)Z"⟩, 56) := ⟨⟨by decide +kernel, by decide +kernel⟩, List.mem_of_getElem? (i := 1128) (by decide +kernel), List.mem_of_getElem? (i := 1487) (by decide +kernel), List.mem_of_getElem? (i := 1488) (by decide +kernel)⟩
theorem lw_p78 : lw_okq (⟨"SteamNationsModel", "reads", "()Z"⟩, 56) := ⟨⟨by decide +kernel, by decide +kernel⟩, List.mem_of_getElem? (i := 1128) (by decide +kernel), List.mem_of_getElem? (i := 1491) (by decide +kernel), List.mem_of_getElem? (i := 1492) (by decide +kernel)⟩
theorem lw_p79 : lw_okq (⟨"SteamNationsModel", "splits", "(I)V"⟩, 56) := ⟨⟨by decide +kernel, by decide +kernel⟩, List.mem_of_getElem? (i := 1128) (by decide +kernel), List.mem_of_getElem? (i := 1495) (by decide +kernel), List.mem_of_getElem? (i := 1496) (by decide +kernel)⟩
def lw_privs_5 : List (MethodName × Nat) := [(⟨"SteamNationsModel", "termOf", "(Z)J"⟩, 56), (⟨"SteamNationsModel", "partOf", "(Z)J"⟩, 56), (⟨"SteamNationsModel", "passes0", "(I)Z"⟩, 56), (⟨"SteamNationsModel", "orderValue", "(II)I"⟩, 56), (⟨"SteamNationsModel", "insideMany", "()I"⟩, 56), (⟨"SteamNationsModel", "pleasedMany", "()I"⟩, 56), (⟨"SteamNationsModel", "bounded", "(JZ)J"⟩, 56), (⟨"SteamNationsModel", "testOf", "(Z)Z"⟩, 56), (⟨"SteamNationsModel", "bothOf", "(Z)Z"⟩, 56), (⟨"SteamNationsModel", "plainOf", "(Z)Z"⟩, 56), (⟨"SteamNationsModel", "positiveOf", "(Z)Z"⟩, 56), (⟨"SteamNationsModel", "onSeat", "(I)I"⟩, 56), (⟨"SteamNationsModel", "givesTo", "(II)I"⟩, 56), (⟨"SteamNationsModel", "readsAs", "(Z)Z"⟩, 56), (⟨"SteamNationsModel", "reads", "()Z"⟩, 56), (⟨"SteamNationsModel", "splits", "(I)V"⟩, 56)]
theorem lw_r5 : ∀ q ∈ lw_privs_5, lw_okq q := List.forall_mem_cons.mpr ⟨lw_p64, List.forall_mem_cons.mpr ⟨lw_p65, List.forall_mem_cons.mpr ⟨lw_p66, List.forall_mem_cons.mpr ⟨lw_p67, List.forall_mem_cons.mpr ⟨lw_p68, List.forall_mem_cons.mpr ⟨lw_p69, List.forall_mem_cons.mpr ⟨lw_p70, List.forall_mem_cons.mpr ⟨lw_p71, List.forall_mem_cons.mpr ⟨lw_p72, List.forall_mem_cons.mpr ⟨lw_p73, List.forall_mem_cons.mpr ⟨lw_p74, List.forall_mem_cons.mpr ⟨lw_p75, List.forall_mem_cons.mpr ⟨lw_p76, List.forall_mem_cons.mpr ⟨lw_p77, List.forall_mem_cons.mpr ⟨lw_p78, List.forall_mem_cons.mpr ⟨lw_p79, fun _ h => absurd h List.not_mem_nil⟩⟩⟩⟩⟩⟩⟩⟩⟩⟩⟩⟩⟩⟩⟩⟩
theorem lw_p80 : lw_okq (⟨"SteamNationsModel", "wordOf", "(II)I"⟩, 56) := ⟨⟨by decide +kernel, by decide +kernel⟩, List.mem_of_getElem? (i := 1128) (by decide +kernel), List.mem_of_getElem? (i := 1505) (by decide +kernel), List.mem_of_getElem? (i := 1506) (by decide +kernel)⟩
theorem lw_p81 : lw_okq (⟨"SteamNationsModel", "readOne", "()V"⟩, 56) := ⟨⟨by decide +kernel, by decide +kernel⟩, List.mem_of_getElem? (i := 1128) (by decide +kernel), List.mem_of_getElem? (i := 1510) (by decide +kernel), List.mem_of_getElem? (i := 1511) (by decide +kernel)⟩
theorem lw_p82 : lw_okq (⟨"SteamNationsModel", "readOrder", "()V"⟩, 56) := ⟨⟨by decide +kernel, by decide +kernel⟩, List.mem_of_getElem? (i := 1128) (by decide +kernel), List.mem_of_getElem? (i := 1514) (by decide +kernel), List.mem_of_getElem? (i := 1515) (by decide +kernel)⟩
theorem lw_p83 : lw_okq (⟨"SteamNationsModel", "takes0", "(I)Z"⟩, 56) := ⟨⟨by decide +kernel, by decide +kernel⟩, List.mem_of_getElem? (i := 1128) (by decide +kernel), List.mem_of_getElem? (i := 1518) (by decide +kernel), List.mem_of_getElem? (i := 1519) (by decide +kernel)⟩
theorem lw_p84 : lw_okq (⟨"SteamNationsModel", "fine", "()Z"⟩, 56) := ⟨⟨by decide +kernel, by decide +kernel⟩, List.mem_of_getElem? (i := 1128) (by decide +kernel), List.mem_of_getElem? (i := 1522) (by decide +kernel), List.mem_of_getElem? (i := 1523) (by decide +kernel)⟩
theorem lw_p85 : lw_okq (⟨"SteamNationsModel", "readSum", "(I)V"⟩, 56) := ⟨⟨by decide +kernel, by decide +kernel⟩, List.mem_of_getElem? (i := 1128) (by decide +kernel), List.mem_of_getElem? (i := 1526) (by decide +kernel), List.mem_of_getElem? (i := 1527) (by decide +kernel)⟩
theorem lw_p86 : lw_okq (⟨"SteamNationsModel", "readTerm", "(I)V"⟩, 56) := ⟨⟨by decide +kernel, by decide +kernel⟩, List.mem_of_getElem? (i := 1128) (by decide +kernel), List.mem_of_getElem? (i := 1530) (by decide +kernel), List.mem_of_getElem? (i := 1531) (by decide +kernel)⟩
theorem lw_p87 : lw_okq (⟨"SteamNationsModel", "readPart", "(I)V"⟩, 56) := ⟨⟨by decide +kernel, by decide +kernel⟩, List.mem_of_getElem? (i := 1128) (by decide +kernel), List.mem_of_getElem? (i := 1534) (by decide +kernel), List.mem_of_getElem? (i := 1535) (by decide +kernel)⟩
theorem lw_p88 : lw_okq (⟨"SteamNationsModel", "faults", "()V"⟩, 56) := ⟨⟨by decide +kernel, by decide +kernel⟩, List.mem_of_getElem? (i := 1128) (by decide +kernel), List.mem_of_getElem? (i := 1538) (by decide +kernel), List.mem_of_getElem? (i := 1539) (by decide +kernel)⟩
theorem lw_p89 : lw_okq (⟨"SteamNationsModel", "must", "(I)V"⟩, 56) := ⟨⟨by decide +kernel, by decide +kernel⟩, List.mem_of_getElem? (i := 1128) (by decide +kernel), List.mem_of_getElem? (i := 1542) (by decide +kernel), List.mem_of_getElem? (i := 1543) (by decide +kernel)⟩
theorem lw_p90 : lw_okq (⟨"SteamNationsModel", "leaf", "()V"⟩, 56) := ⟨⟨by decide +kernel, by decide +kernel⟩, List.mem_of_getElem? (i := 1128) (by decide +kernel), List.mem_of_getElem? (i := 1546) (by decide +kernel), List.mem_of_getElem? (i := 1547) (by decide +kernel)⟩
theorem lw_p91 : lw_okq (⟨"SteamNationsModel", "mustNumber", "(II)V"⟩, 56) := ⟨⟨by decide +kernel, by decide +kernel⟩, List.mem_of_getElem? (i := 1128) (by decide +kernel), List.mem_of_getElem? (i := 1550) (by decide +kernel), List.mem_of_getElem? (i := 1551) (by decide +kernel)⟩
theorem lw_p92 : lw_okq (⟨"SteamNationsModel", "readTest", "(I)V"⟩, 56) := ⟨⟨by decide +kernel, by decide +kernel⟩, List.mem_of_getElem? (i := 1128) (by decide +kernel), List.mem_of_getElem? (i := 1554) (by decide +kernel), List.mem_of_getElem? (i := 1555) (by decide +kernel)⟩
theorem lw_p93 : lw_okq (⟨"SteamNationsModel", "readBoth", "(I)V"⟩, 56) := ⟨⟨by decide +kernel, by decide +kernel⟩, List.mem_of_getElem? (i := 1128) (by decide +kernel), List.mem_of_getElem? (i := 1558) (by decide +kernel), List.mem_of_getElem? (i := 1559) (by decide +kernel)⟩
theorem lw_p94 : lw_okq (⟨"SteamNationsModel", "readPlain", "(I)V"⟩, 56) := ⟨⟨by decide +kernel, by decide +kernel⟩, List.mem_of_getElem? (i := 1128) (by decide +kernel), List.mem_of_getElem? (i := 1562) (by decide +kernel), List.mem_of_getElem? (i := 1563) (by decide +kernel)⟩
theorem lw_p95 : lw_okq (⟨"SteamNationsModel", "readClause", "()V"⟩, 56) := ⟨⟨by decide +kernel, by decide +kernel⟩, List.mem_of_getElem? (i := 1128) (by decide +kernel), List.mem_of_getElem? (i := 1566) (by decide +kernel), List.mem_of_getElem? (i := 1567) (by decide +kernel)⟩
def lw_privs_6 : List (MethodName × Nat) := [(⟨"SteamNationsModel", "wordOf", "(II)I"⟩, 56), (⟨"SteamNationsModel", "readOne", "()V"⟩, 56), (⟨"SteamNationsModel", "readOrder", "()V"⟩, 56), (⟨"SteamNationsModel", "takes0", "(I)Z"⟩, 56), (⟨"SteamNationsModel", "fine", "()Z"⟩, 56), (⟨"SteamNationsModel", "readSum", "(I)V"⟩, 56), (⟨"SteamNationsModel", "readTerm", "(I)V"⟩, 56), (⟨"SteamNationsModel", "readPart", "(I)V"⟩, 56), (⟨"SteamNationsModel", "faults", "()V"⟩, 56), (⟨"SteamNationsModel", "must", "(I)V"⟩, 56), (⟨"SteamNationsModel", "leaf", "()V"⟩, 56), (⟨"SteamNationsModel", "mustNumber", "(II)V"⟩, 56), (⟨"SteamNationsModel", "readTest", "(I)V"⟩, 56), (⟨"SteamNationsModel", "readBoth", "(I)V"⟩, 56), (⟨"SteamNationsModel", "readPlain", "(I)V"⟩, 56), (⟨"SteamNationsModel", "readClause", "()V"⟩, 56)]
theorem lw_r6 : ∀ q ∈ lw_privs_6, lw_okq q := List.forall_mem_cons.mpr ⟨lw_p80, List.forall_mem_cons.mpr ⟨lw_p81, List.forall_mem_cons.mpr ⟨lw_p82, List.forall_mem_cons.mpr ⟨lw_p83, List.forall_mem_cons.mpr ⟨lw_p84, List.forall_mem_cons.mpr ⟨lw_p85, List.forall_mem_cons.mpr ⟨lw_p86, List.forall_mem_cons.mpr ⟨lw_p87, List.forall_mem_cons.mpr ⟨lw_p88, List.forall_mem_cons.mpr ⟨lw_p89, List.forall_mem_cons.mpr ⟨lw_p90, List.forall_mem_cons.mpr ⟨lw_p91, List.forall_mem_cons.mpr ⟨lw_p92, List.forall_mem_cons.mpr ⟨lw_p93, List.forall_mem_cons.mpr ⟨lw_p94, List.forall_mem_cons.mpr ⟨lw_p95, fun _ h => absurd h List.not_mem_nil⟩⟩⟩⟩⟩⟩⟩⟩⟩⟩⟩⟩⟩⟩⟩⟩
theorem lw_p96 : lw_okq (⟨"SteamNationsModel", "lays", "(I)V"⟩, 56) := ⟨⟨by decide +kernel, by decide +kernel⟩, List.mem_of_getElem? (i := 1128) (by decide +kernel), List.mem_of_getElem? (i := 1570) (by decide +kernel), List.mem_of_getElem? (i := 1571) (by decide +kernel)⟩
theorem lw_p97 : lw_okq (⟨"SteamNationsModel", "isLaw", "(I)Z"⟩, 56) := ⟨⟨by decide +kernel, by decide +kernel⟩, List.mem_of_getElem? (i := 1128) (by decide +kernel), List.mem_of_getElem? (i := 1582) (by decide +kernel), List.mem_of_getElem? (i := 1583) (by decide +kernel)⟩
theorem lw_p98 : lw_okq (⟨"SteamNationsModel", "seatsKept", "(II)I"⟩, 56) := ⟨⟨by decide +kernel, by decide +kernel⟩, List.mem_of_getElem? (i := 1128) (by decide +kernel), List.mem_of_getElem? (i := 1594) (by decide +kernel), List.mem_of_getElem? (i := 1595) (by decide +kernel)⟩
theorem lw_p99 : lw_okq (⟨"SteamNationsModel", "keeps", "(I)V"⟩, 56) := ⟨⟨by decide +kernel, by decide +kernel⟩, List.mem_of_getElem? (i := 1128) (by decide +kernel), List.mem_of_getElem? (i := 1598) (by decide +kernel), List.mem_of_getElem? (i := 1599) (by decide +kernel)⟩
theorem lw_p100 : lw_okq (⟨"SteamNationsModel", "goodOr", "(I)I"⟩, 56) := ⟨⟨by decide +kernel, by decide +kernel⟩, List.mem_of_getElem? (i := 1128) (by decide +kernel), List.mem_of_getElem? (i := 1602) (by decide +kernel), List.mem_of_getElem? (i := 1603) (by decide +kernel)⟩
theorem lw_p101 : lw_okq (⟨"SteamNationsModel", "outKept", "(I)I"⟩, 56) := ⟨⟨by decide +kernel, by decide +kernel⟩, List.mem_of_getElem? (i := 1128) (by decide +kernel), List.mem_of_getElem? (i := 1610) (by decide +kernel), List.mem_of_getElem? (i := 1611) (by decide +kernel)⟩
theorem lw_p102 : lw_okq (⟨"SteamNationsModel", "swapsKept", "(II)I"⟩, 56) := ⟨⟨by decide +kernel, by decide +kernel⟩, List.mem_of_getElem? (i := 1128) (by decide +kernel), List.mem_of_getElem? (i := 1618) (by decide +kernel), List.mem_of_getElem? (i := 1619) (by decide +kernel)⟩
theorem lw_p103 : lw_okq (⟨"SteamNationsModel", "passesKept", "()I"⟩, 56) := ⟨⟨by decide +kernel, by decide +kernel⟩, List.mem_of_getElem? (i := 1128) (by decide +kernel), List.mem_of_getElem? (i := 1626) (by decide +kernel), List.mem_of_getElem? (i := 1627) (by decide +kernel)⟩
theorem lw_p104 : lw_okq (⟨"SteamNationsModel", "minutePasses", "()V"⟩, 56) := ⟨⟨by decide +kernel, by decide +kernel⟩, List.mem_of_getElem? (i := 1128) (by decide +kernel), List.mem_of_getElem? (i := 1630) (by decide +kernel), List.mem_of_getElem? (i := 1631) (by decide +kernel)⟩
theorem lw_p105 : lw_okq (⟨"SteamNationsModel", "givesAll", "(I)V"⟩, 56) := ⟨⟨by decide +kernel, by decide +kernel⟩, List.mem_of_getElem? (i := 1128) (by decide +kernel), List.mem_of_getElem? (i := 1634) (by decide +kernel), List.mem_of_getElem? (i := 1635) (by decide +kernel)⟩
theorem lw_p106 : lw_okq (⟨"SteamNationsModel", "laysAside", "(I)V"⟩, 56) := ⟨⟨by decide +kernel, by decide +kernel⟩, List.mem_of_getElem? (i := 1128) (by decide +kernel), List.mem_of_getElem? (i := 1645) (by decide +kernel), List.mem_of_getElem? (i := 1646) (by decide +kernel)⟩
theorem lw_p107 : lw_okq (⟨"SteamNationsModel", "passMinutes", "(I)V"⟩, 56) := ⟨⟨by decide +kernel, by decide +kernel⟩, List.mem_of_getElem? (i := 1128) (by decide +kernel), List.mem_of_getElem? (i := 1649) (by decide +kernel), List.mem_of_getElem? (i := 1650) (by decide +kernel)⟩
theorem lw_p108 : lw_okq (⟨"SteamNationsModel", "takesBack", "(I)V"⟩, 56) := ⟨⟨by decide +kernel, by decide +kernel⟩, List.mem_of_getElem? (i := 1128) (by decide +kernel), List.mem_of_getElem? (i := 1653) (by decide +kernel), List.mem_of_getElem? (i := 1654) (by decide +kernel)⟩
theorem lw_p109 : lw_okq (⟨"SteamNationsModel", "areOne", "()Z"⟩, 56) := ⟨⟨by decide +kernel, by decide +kernel⟩, List.mem_of_getElem? (i := 1128) (by decide +kernel), List.mem_of_getElem? (i := 1665) (by decide +kernel), List.mem_of_getElem? (i := 1666) (by decide +kernel)⟩
theorem lw_p110 : lw_okq (⟨"SteamNationsModel", "laysPleased", "(I)I"⟩, 56) := ⟨⟨by decide +kernel, by decide +kernel⟩, List.mem_of_getElem? (i := 1128) (by decide +kernel), List.mem_of_getElem? (i := 1673) (by decide +kernel), List.mem_of_getElem? (i := 1674) (by decide +kernel)⟩
theorem lw_p111 : lw_okq (⟨"SteamNationsModel", "laysHolders", "()V"⟩, 56) := ⟨⟨by decide +kernel, by decide +kernel⟩, List.mem_of_getElem? (i := 1128) (by decide +kernel), List.mem_of_getElem? (i := 1677) (by decide +kernel), List.mem_of_getElem? (i := 1678) (by decide +kernel)⟩
def lw_privs_7 : List (MethodName × Nat) := [(⟨"SteamNationsModel", "lays", "(I)V"⟩, 56), (⟨"SteamNationsModel", "isLaw", "(I)Z"⟩, 56), (⟨"SteamNationsModel", "seatsKept", "(II)I"⟩, 56), (⟨"SteamNationsModel", "keeps", "(I)V"⟩, 56), (⟨"SteamNationsModel", "goodOr", "(I)I"⟩, 56), (⟨"SteamNationsModel", "outKept", "(I)I"⟩, 56), (⟨"SteamNationsModel", "swapsKept", "(II)I"⟩, 56), (⟨"SteamNationsModel", "passesKept", "()I"⟩, 56), (⟨"SteamNationsModel", "minutePasses", "()V"⟩, 56), (⟨"SteamNationsModel", "givesAll", "(I)V"⟩, 56), (⟨"SteamNationsModel", "laysAside", "(I)V"⟩, 56), (⟨"SteamNationsModel", "passMinutes", "(I)V"⟩, 56), (⟨"SteamNationsModel", "takesBack", "(I)V"⟩, 56), (⟨"SteamNationsModel", "areOne", "()Z"⟩, 56), (⟨"SteamNationsModel", "laysPleased", "(I)I"⟩, 56), (⟨"SteamNationsModel", "laysHolders", "()V"⟩, 56)]
theorem lw_r7 : ∀ q ∈ lw_privs_7, lw_okq q := List.forall_mem_cons.mpr ⟨lw_p96, List.forall_mem_cons.mpr ⟨lw_p97, List.forall_mem_cons.mpr ⟨lw_p98, List.forall_mem_cons.mpr ⟨lw_p99, List.forall_mem_cons.mpr ⟨lw_p100, List.forall_mem_cons.mpr ⟨lw_p101, List.forall_mem_cons.mpr ⟨lw_p102, List.forall_mem_cons.mpr ⟨lw_p103, List.forall_mem_cons.mpr ⟨lw_p104, List.forall_mem_cons.mpr ⟨lw_p105, List.forall_mem_cons.mpr ⟨lw_p106, List.forall_mem_cons.mpr ⟨lw_p107, List.forall_mem_cons.mpr ⟨lw_p108, List.forall_mem_cons.mpr ⟨lw_p109, List.forall_mem_cons.mpr ⟨lw_p110, List.forall_mem_cons.mpr ⟨lw_p111, fun _ h => absurd h List.not_mem_nil⟩⟩⟩⟩⟩⟩⟩⟩⟩⟩⟩⟩⟩⟩⟩⟩
theorem lw_p112 : lw_okq (⟨"SteamNationsModel", "seatsAll", "(I)V"⟩, 56) := ⟨⟨by decide +kernel, by decide +kernel⟩, List.mem_of_getElem? (i := 1128) (by decide +kernel), List.mem_of_getElem? (i := 1681) (by decide +kernel), List.mem_of_getElem? (i := 1682) (by decide +kernel)⟩
theorem lw_p113 : lw_okq (⟨"SteamNationsModel", "laysSwaps", "(I)V"⟩, 56) := ⟨⟨by decide +kernel, by decide +kernel⟩, List.mem_of_getElem? (i := 1128) (by decide +kernel), List.mem_of_getElem? (i := 1695) (by decide +kernel), List.mem_of_getElem? (i := 1696) (by decide +kernel)⟩
theorem lw_p114 : lw_okq (⟨"SteamNationsModel", "swapped", "(II)I"⟩, 56) := ⟨⟨by decide +kernel, by decide +kernel⟩, List.mem_of_getElem? (i := 1128) (by decide +kernel), List.mem_of_getElem? (i := 1699) (by decide +kernel), List.mem_of_getElem? (i := 1700) (by decide +kernel)⟩
theorem lw_p115 : lw_okq (⟨"SteamNationsModel", "swapsTwo", "(II)V"⟩, 56) := ⟨⟨by decide +kernel, by decide +kernel⟩, List.mem_of_getElem? (i := 1128) (by decide +kernel), List.mem_of_getElem? (i := 1703) (by decide +kernel), List.mem_of_getElem? (i := 1704) (by decide +kernel)⟩
theorem lw_p116 : lw_okq (⟨"SteamNationsModel", "seatingNow", "()I"⟩, 56) := ⟨⟨by decide +kernel, by decide +kernel⟩, List.mem_of_getElem? (i := 1128) (by decide +kernel), List.mem_of_getElem? (i := 1707) (by decide +kernel), List.mem_of_getElem? (i := 1708) (by decide +kernel)⟩
theorem lw_p117 : lw_okq (⟨"SteamNationsModel", "firstTwo", "(I)I"⟩, 56) := ⟨⟨by decide +kernel, by decide +kernel⟩, List.mem_of_getElem? (i := 1128) (by decide +kernel), List.mem_of_getElem? (i := 1711) (by decide +kernel), List.mem_of_getElem? (i := 1712) (by decide +kernel)⟩
theorem lw_p118 : lw_okq (⟨"SteamNationsModel", "laysSat", "(I)I"⟩, 56) := ⟨⟨by decide +kernel, by decide +kernel⟩, List.mem_of_getElem? (i := 1128) (by decide +kernel), List.mem_of_getElem? (i := 1727) (by decide +kernel), List.mem_of_getElem? (i := 1728) (by decide +kernel)⟩
theorem lw_p119 : lw_okq (⟨"SteamNationsModel", "isSoAt", "(I)Z"⟩, 56) := ⟨⟨by decide +kernel, by decide +kernel⟩, List.mem_of_getElem? (i := 1128) (by decide +kernel), List.mem_of_getElem? (i := 1731) (by decide +kernel), List.mem_of_getElem? (i := 1732) (by decide +kernel)⟩
theorem lw_p120 : lw_okq (⟨"SteamNationsModel", "mostAlike", "(I)I"⟩, 56) := ⟨⟨by decide +kernel, by decide +kernel⟩, List.mem_of_getElem? (i := 1128) (by decide +kernel), List.mem_of_getElem? (i := 1739) (by decide +kernel), List.mem_of_getElem? (i := 1740) (by decide +kernel)⟩
theorem lw_p121 : lw_okq (⟨"SteamNationsModel", "isTreaty", "(II)Z"⟩, 56) := ⟨⟨by decide +kernel, by decide +kernel⟩, List.mem_of_getElem? (i := 1128) (by decide +kernel), List.mem_of_getElem? (i := 1750) (by decide +kernel), List.mem_of_getElem? (i := 1751) (by decide +kernel)⟩
theorem lw_p122 : lw_okq (⟨"SteamNationsModel", "common", "(II)I"⟩, 56) := ⟨⟨by decide +kernel, by decide +kernel⟩, List.mem_of_getElem? (i := 1128) (by decide +kernel), List.mem_of_getElem? (i := 1754) (by decide +kernel), List.mem_of_getElem? (i := 1755) (by decide +kernel)⟩
theorem lw_p123 : lw_okq (⟨"SteamNationsModel", "drops", "()V"⟩, 56) := ⟨⟨by decide +kernel, by decide +kernel⟩, List.mem_of_getElem? (i := 1128) (by decide +kernel), List.mem_of_getElem? (i := 1762) (by decide +kernel), List.mem_of_getElem? (i := 1763) (by decide +kernel)⟩
theorem lw_p124 : lw_okq (⟨"SteamNationsModel", "runs", "(I)Z"⟩, 56) := ⟨⟨by decide +kernel, by decide +kernel⟩, List.mem_of_getElem? (i := 1128) (by decide +kernel), List.mem_of_getElem? (i := 1784) (by decide +kernel), List.mem_of_getElem? (i := 1785) (by decide +kernel)⟩
theorem lw_p125 : lw_okq (⟨"SteamNationsModel", "goesAlong", "(IZ)V"⟩, 56) := ⟨⟨by decide +kernel, by decide +kernel⟩, List.mem_of_getElem? (i := 1128) (by decide +kernel), List.mem_of_getElem? (i := 1788) (by decide +kernel), List.mem_of_getElem? (i := 1789) (by decide +kernel)⟩
theorem lw_p126 : lw_okq (⟨"SteamNationsModel", "obeys", "()I"⟩, 56) := ⟨⟨by decide +kernel, by decide +kernel⟩, List.mem_of_getElem? (i := 1128) (by decide +kernel), List.mem_of_getElem? (i := 1792) (by decide +kernel), List.mem_of_getElem? (i := 1793) (by decide +kernel)⟩
theorem lw_p127 : lw_okq (⟨"SteamNationsModel", "minuteIsDrawn", "()V"⟩, 56) := ⟨⟨by decide +kernel, by decide +kernel⟩, List.mem_of_getElem? (i := 1128) (by decide +kernel), List.mem_of_getElem? (i := 1804) (by decide +kernel), List.mem_of_getElem? (i := 1805) (by decide +kernel)⟩
def lw_privs_8 : List (MethodName × Nat) := [(⟨"SteamNationsModel", "seatsAll", "(I)V"⟩, 56), (⟨"SteamNationsModel", "laysSwaps", "(I)V"⟩, 56), (⟨"SteamNationsModel", "swapped", "(II)I"⟩, 56), (⟨"SteamNationsModel", "swapsTwo", "(II)V"⟩, 56), (⟨"SteamNationsModel", "seatingNow", "()I"⟩, 56), (⟨"SteamNationsModel", "firstTwo", "(I)I"⟩, 56), (⟨"SteamNationsModel", "laysSat", "(I)I"⟩, 56), (⟨"SteamNationsModel", "isSoAt", "(I)Z"⟩, 56), (⟨"SteamNationsModel", "mostAlike", "(I)I"⟩, 56), (⟨"SteamNationsModel", "isTreaty", "(II)Z"⟩, 56), (⟨"SteamNationsModel", "common", "(II)I"⟩, 56), (⟨"SteamNationsModel", "drops", "()V"⟩, 56), (⟨"SteamNationsModel", "runs", "(I)Z"⟩, 56), (⟨"SteamNationsModel", "goesAlong", "(IZ)V"⟩, 56), (⟨"SteamNationsModel", "obeys", "()I"⟩, 56), (⟨"SteamNationsModel", "minuteIsDrawn", "()V"⟩, 56)]
theorem lw_r8 : ∀ q ∈ lw_privs_8, lw_okq q := List.forall_mem_cons.mpr ⟨lw_p112, List.forall_mem_cons.mpr ⟨lw_p113, List.forall_mem_cons.mpr ⟨lw_p114, List.forall_mem_cons.mpr ⟨lw_p115, List.forall_mem_cons.mpr ⟨lw_p116, List.forall_mem_cons.mpr ⟨lw_p117, List.forall_mem_cons.mpr ⟨lw_p118, List.forall_mem_cons.mpr ⟨lw_p119, List.forall_mem_cons.mpr ⟨lw_p120, List.forall_mem_cons.mpr ⟨lw_p121, List.forall_mem_cons.mpr ⟨lw_p122, List.forall_mem_cons.mpr ⟨lw_p123, List.forall_mem_cons.mpr ⟨lw_p124, List.forall_mem_cons.mpr ⟨lw_p125, List.forall_mem_cons.mpr ⟨lw_p126, List.forall_mem_cons.mpr ⟨lw_p127, fun _ h => absurd h List.not_mem_nil⟩⟩⟩⟩⟩⟩⟩⟩⟩⟩⟩⟩⟩⟩⟩⟩
theorem lw_p128 : lw_okq (⟨"SteamNationsModel", "draws", "(I)I"⟩, 56) := ⟨⟨by decide +kernel, by decide +kernel⟩, List.mem_of_getElem? (i := 1128) (by decide +kernel), List.mem_of_getElem? (i := 1808) (by decide +kernel), List.mem_of_getElem? (i := 1809) (by decide +kernel)⟩
theorem lw_p129 : lw_okq (⟨"SteamNationsModel", "allOf", "(I)I"⟩, 56) := ⟨⟨by decide +kernel, by decide +kernel⟩, List.mem_of_getElem? (i := 1128) (by decide +kernel), List.mem_of_getElem? (i := 1823) (by decide +kernel), List.mem_of_getElem? (i := 1824) (by decide +kernel)⟩
def lw_privs_9 : List (MethodName × Nat) := [(⟨"SteamNationsModel", "draws", "(I)I"⟩, 56), (⟨"SteamNationsModel", "allOf", "(I)I"⟩, 56)]
theorem lw_r9 : ∀ q ∈ lw_privs_9, lw_okq q := List.forall_mem_cons.mpr ⟨lw_p128, List.forall_mem_cons.mpr ⟨lw_p129, fun _ h => absurd h List.not_mem_nil⟩⟩
def lw_privs : List (MethodName × Nat) := lw_privs_1 ++ (lw_privs_2 ++ (lw_privs_3 ++ (lw_privs_4 ++ (lw_privs_5 ++ (lw_privs_6 ++ (lw_privs_7 ++ (lw_privs_8 ++ (lw_privs_9))))))))
def lw_tbl : List Cond := k2_sels lw_privs ++ tables_1
theorem lw_privs_ok : ∀ q ∈ lw_privs, lw_okq q := by
  show ∀ q ∈ lw_privs_1 ++ (lw_privs_2 ++ (lw_privs_3 ++ (lw_privs_4 ++ (lw_privs_5 ++ (lw_privs_6 ++ (lw_privs_7 ++ (lw_privs_8 ++ (lw_privs_9)))))))), lw_okq q
  exact List.forall_mem_append.mpr ⟨lw_r1, List.forall_mem_append.mpr ⟨lw_r2, List.forall_mem_append.mpr ⟨lw_r3, List.forall_mem_append.mpr ⟨lw_r4, List.forall_mem_append.mpr ⟨lw_r5, List.forall_mem_append.mpr ⟨lw_r6, List.forall_mem_append.mpr ⟨lw_r7, List.forall_mem_append.mpr ⟨lw_r8, lw_r9⟩⟩⟩⟩⟩⟩⟩⟩
-- ===== end of PART A; then your names; then what follows =====
end
section
def gw : List Cond := lw_tbl.filter goodWord
theorem gw_mem {w : Cond} (i : Nat) (h : lw_tbl[i]? = some w) (hg : goodWord w = true) : w ∈ gw := List.mem_filter.mpr ⟨List.mem_of_getElem? h, hg⟩
theorem gw_tbl {w : Cond} (h : w ∈ gw) : w ∈ lw_tbl := (List.mem_filter.mp h).1
def cn_0 : String := "SteamNations$Errands"
def ft_0 : u_T := fun k => match k with
  | 0 => ("SteamNations$Errands", "moves", "LSteamNations$Moves;", true)
  | 1 => ("SteamNations$Errands", "machine", "LSteamNations$Machine;", true)
  | 2 => ("SteamNations$Errands", "roomAhead", "LSteamNations$Room;", true)
  | 3 => ("SteamNations$Errands", "pastAhead", "LSteamNations$Past;", true)
  | 4 => ("SteamNations$Errands", "done", "I", false)
  | 5 => ("SteamNations$Errands", "latest", "I", false)
  | _ => ("SteamNations$Errands", "stoppedAt", "I", false)
def fy_0 : Nat → FieldType := fun k => match k with
  | 0 => .object "SteamNations$Moves"
  | 1 => .object "SteamNations$Machine"
  | 2 => .object "SteamNations$Room"
  | 3 => .object "SteamNations$Past"
  | 4 => .int
  | 5 => .int
  | _ => .int
theorem nm_0 : ∀ a, a < 7 → ∀ b, b < 7 → a ≠ b → (ft_0 a).2.1 ≠ (ft_0 b).2.1 := by decide +kernel
theorem fo_0 : ∀ k, k < 7 → parseFieldDescriptor (ft_0 k).2.2.1 = some (fy_0 k) := by decide +kernel
def cn_1 : String := "SteamNations$House"
def ft_1 : u_T := fun k => match k with
  | 0 => ("SteamNations$House", "room", "LSteamNations$Room;", true)
  | 1 => ("SteamNations$House", "noLaw", "LSteamNations$Text;", true)
  | 2 => ("SteamNations$House", "laws", "[LSteamNations$Text;", true)
  | 3 => ("SteamNations$House", "lawCount", "I", false)
  | 4 => ("SteamNations$House", "force", "I", false)
  | 5 => ("SteamNations$House", "sights", "[I", true)
  | _ => ("SteamNations$House", "sightCount", "I", false)
def fy_1 : Nat → FieldType := fun k => match k with
  | 0 => .object "SteamNations$Room"
  | 1 => .object "SteamNations$Text"
  | 2 => .array (.object "SteamNations$Text")
  | 3 => .int
  | 4 => .int
  | 5 => .array .int
  | _ => .int
theorem nm_1 : ∀ a, a < 7 → ∀ b, b < 7 → a ≠ b → (ft_1 a).2.1 ≠ (ft_1 b).2.1 := by decide +kernel
theorem fo_1 : ∀ k, k < 7 → parseFieldDescriptor (ft_1 k).2.2.1 = some (fy_1 k) := by decide +kernel
def cn_2 : String := "SteamNations$Machine"
def ft_2 : u_T := fun k => match k with
  | 0 => ("SteamNations$Machine", "words", "[I", true)
  | _ => ("SteamNations$Machine", "stack", "[I", true)
def fy_2 : Nat → FieldType := fun k => match k with
  | 0 => .array .int
  | _ => .array .int
theorem nm_2 : ∀ a, a < 2 → ∀ b, b < 2 → a ≠ b → (ft_2 a).2.1 ≠ (ft_2 b).2.1 := by decide +kernel
theorem fo_2 : ∀ k, k < 2 → parseFieldDescriptor (ft_2 k).2.2.1 = some (fy_2 k) := by decide +kernel
def cn_3 : String := "SteamNations$Moves"
def ft_3 : u_T := fun k => match k with
  | 0 => ("SteamNations$Moves", "house", "LSteamNations$House;", true)
  | 1 => ("SteamNations$Moves", "past", "LSteamNations$Past;", true)
  | _ => ("SteamNations$Moves", "steam", "LSteamNations$Steam;", true)
def fy_3 : Nat → FieldType := fun k => match k with
  | 0 => .object "SteamNations$House"
  | 1 => .object "SteamNations$Past"
  | _ => .object "SteamNations$Steam"
theorem nm_3 : ∀ a, a < 3 → ∀ b, b < 3 → a ≠ b → (ft_3 a).2.1 ≠ (ft_3 b).2.1 := by decide +kernel
theorem fo_3 : ∀ k, k < 3 → parseFieldDescriptor (ft_3 k).2.2.1 = some (fy_3 k) := by decide +kernel
def cn_4 : String := "SteamNations$Past"
def ft_4 : u_T := fun k => match k with
  | 0 => ("SteamNations$Past", "kept", "[I", true)
  | 1 => ("SteamNations$Past", "next", "I", false)
  | _ => ("SteamNations$Past", "size", "I", false)
def fy_4 : Nat → FieldType := fun k => match k with
  | 0 => .array .int
  | 1 => .int
  | _ => .int
theorem nm_4 : ∀ a, a < 3 → ∀ b, b < 3 → a ≠ b → (ft_4 a).2.1 ≠ (ft_4 b).2.1 := by decide +kernel
theorem fo_4 : ∀ k, k < 3 → parseFieldDescriptor (ft_4 k).2.2.1 = some (fy_4 k) := by decide +kernel
def cn_5 : String := "SteamNations$Reader"
def ft_5 : u_T := fun k => match k with
  | 0 => ("SteamNations$Reader", "kinds", "[I", true)
  | 1 => ("SteamNations$Reader", "starts", "[I", true)
  | 2 => ("SteamNations$Reader", "numbers", "[I", true)
  | 3 => ("SteamNations$Reader", "code", "[I", true)
  | 4 => ("SteamNations$Reader", "marks", "[I", true)
  | 5 => ("SteamNations$Reader", "isOrders", "Z", false)
  | 6 => ("SteamNations$Reader", "now", "I", false)
  | 7 => ("SteamNations$Reader", "kind", "I", false)
  | 8 => ("SteamNations$Reader", "steps", "I", false)
  | 9 => ("SteamNations$Reader", "parts", "I", false)
  | _ => ("SteamNations$Reader", "faultAt", "I", false)
def fy_5 : Nat → FieldType := fun k => match k with
  | 0 => .array .int
  | 1 => .array .int
  | 2 => .array .int
  | 3 => .array .int
  | 4 => .array .int
  | 5 => .boolean
  | 6 => .int
  | 7 => .int
  | 8 => .int
  | 9 => .int
  | _ => .int
theorem nm_5 : ∀ a, a < 11 → ∀ b, b < 11 → a ≠ b → (ft_5 a).2.1 ≠ (ft_5 b).2.1 := by decide +kernel
theorem fo_5 : ∀ k, k < 11 → parseFieldDescriptor (ft_5 k).2.2.1 = some (fy_5 k) := by decide +kernel
def cn_6 : String := "SteamNations$Room"
def ft_6 : u_T := fun k => match k with
  | 0 => ("SteamNations$Room", "sitters", "I", false)
  | 1 => ("SteamNations$Room", "parts", "[I", true)
  | 2 => ("SteamNations$Room", "wishes", "[I", true)
  | 3 => ("SteamNations$Room", "seats", "[I", true)
  | _ => ("SteamNations$Room", "terms", "[I", true)
def fy_6 : Nat → FieldType := fun k => match k with
  | 0 => .int
  | 1 => .array .int
  | 2 => .array .int
  | 3 => .array .int
  | _ => .array .int
theorem nm_6 : ∀ a, a < 5 → ∀ b, b < 5 → a ≠ b → (ft_6 a).2.1 ≠ (ft_6 b).2.1 := by decide +kernel
theorem fo_6 : ∀ k, k < 5 → parseFieldDescriptor (ft_6 k).2.2.1 = some (fy_6 k) := by decide +kernel
def cn_7 : String := "SteamNations$Seatings"
def ft_7 : u_T := fun k => match k with
  | 0 => ("SteamNations$Seatings", "steam", "LSteamNations$Steam;", true)
  | 1 => ("SteamNations$Seatings", "paper", "LSteamNations$Room;", true)
  | 2 => ("SteamNations$Seatings", "rows", "[I", true)
  | 3 => ("SteamNations$Seatings", "nations", "[I", true)
  | 4 => ("SteamNations$Seatings", "far", "[I", true)
  | 5 => ("SteamNations$Seatings", "queue", "[I", true)
  | 6 => ("SteamNations$Seatings", "insiders", "[I", true)
  | 7 => ("SteamNations$Seatings", "places", "[I", true)
  | 8 => ("SteamNations$Seatings", "alike", "[I", true)
  | 9 => ("SteamNations$Seatings", "inside", "I", false)
  | 10 => ("SteamNations$Seatings", "many", "I", false)
  | _ => ("SteamNations$Seatings", "known", "I", false)
def fy_7 : Nat → FieldType := fun k => match k with
  | 0 => .object "SteamNations$Steam"
  | 1 => .object "SteamNations$Room"
  | 2 => .array .int
  | 3 => .array .int
  | 4 => .array .int
  | 5 => .array .int
  | 6 => .array .int
  | 7 => .array .int
  | 8 => .array .int
  | 9 => .int
  | 10 => .int
  | _ => .int
theorem nm_7 : ∀ a, a < 12 → ∀ b, b < 12 → a ≠ b → (ft_7 a).2.1 ≠ (ft_7 b).2.1 := by decide +kernel
theorem fo_7 : ∀ k, k < 12 → parseFieldDescriptor (ft_7 k).2.2.1 = some (fy_7 k) := by decide +kernel
def cn_8 : String := "SteamNations$Steam"
def ft_8 : u_T := fun k => match k with
  | 0 => ("SteamNations$Steam", "machine", "LSteamNations$Machine;", true)
  | 1 => ("SteamNations$Steam", "changes", "[I", true)
  | _ => ("SteamNations$Steam", "whoIs", "[I", true)
def fy_8 : Nat → FieldType := fun k => match k with
  | 0 => .object "SteamNations$Machine"
  | 1 => .array .int
  | _ => .array .int
theorem nm_8 : ∀ a, a < 3 → ∀ b, b < 3 → a ≠ b → (ft_8 a).2.1 ≠ (ft_8 b).2.1 := by decide +kernel
theorem fo_8 : ∀ k, k < 3 → parseFieldDescriptor (ft_8 k).2.2.1 = some (fy_8 k) := by decide +kernel
def cn_9 : String := "SteamNations$Text"
def ft_9 : u_T := fun k => match k with
  | 0 => ("SteamNations$Text", "code", "[I", true)
  | 1 => ("SteamNations$Text", "marks", "[I", true)
  | 2 => ("SteamNations$Text", "clauses", "I", true)
  | _ => ("SteamNations$Text", "kindBits", "I", true)
def fy_9 : Nat → FieldType := fun k => match k with
  | 0 => .array .int
  | 1 => .array .int
  | 2 => .int
  | _ => .int
theorem nm_9 : ∀ a, a < 4 → ∀ b, b < 4 → a ≠ b → (ft_9 a).2.1 ≠ (ft_9 b).2.1 := by decide +kernel
theorem fo_9 : ∀ k, k < 4 → parseFieldDescriptor (ft_9 k).2.2.1 = some (fy_9 k) := by decide +kernel
def cn_10 : String := "SteamNations"
def ft_10 : u_T := fun k => match k with
  | 0 => ("SteamNations", "house", "LSteamNations$House;", true)
  | 1 => ("SteamNations", "images", "[LSteamNations$House;", true)
  | 2 => ("SteamNations", "imageKept", "[Z", true)
  | 3 => ("SteamNations", "tape", "[I", true)
  | 4 => ("SteamNations", "reader", "LSteamNations$Reader;", true)
  | 5 => ("SteamNations", "steam", "LSteamNations$Steam;", true)
  | 6 => ("SteamNations", "past", "LSteamNations$Past;", true)
  | 7 => ("SteamNations", "moves", "LSteamNations$Moves;", true)
  | 8 => ("SteamNations", "errands", "LSteamNations$Errands;", true)
  | 9 => ("SteamNations", "seatings", "LSteamNations$Seatings;", true)
  | 10 => ("SteamNations", "paper", "LSteamNations$Room;", true)
  | 11 => ("SteamNations", "latestMornings", "LSteamNations$Room;", true)
  | 12 => ("SteamNations", "drops", "[I", true)
  | 13 => ("SteamNations", "dropsAhead", "[I", true)
  | 14 => ("SteamNations", "chances", "[J", true)
  | 15 => ("SteamNations", "refusals", "[I", true)
  | 16 => ("SteamNations", "tapeLength", "I", false)
  | 17 => ("SteamNations", "faultPlace", "I", false)
  | 18 => ("SteamNations", "puffCount", "I", false)
  | _ => ("SteamNations", "latestRefusal", "I", false)
def fy_10 : Nat → FieldType := fun k => match k with
  | 0 => .object "SteamNations$House"
  | 1 => .array (.object "SteamNations$House")
  | 2 => .array .boolean
  | 3 => .array .int
  | 4 => .object "SteamNations$Reader"
  | 5 => .object "SteamNations$Steam"
  | 6 => .object "SteamNations$Past"
  | 7 => .object "SteamNations$Moves"
  | 8 => .object "SteamNations$Errands"
  | 9 => .object "SteamNations$Seatings"
  | 10 => .object "SteamNations$Room"
  | 11 => .object "SteamNations$Room"
  | 12 => .array .int
  | 13 => .array .int
  | 14 => .array .long
  | 15 => .array .int
  | 16 => .int
  | 17 => .int
  | 18 => .int
  | _ => .int
theorem nm_10 : ∀ a, a < 20 → ∀ b, b < 20 → a ≠ b → (ft_10 a).2.1 ≠ (ft_10 b).2.1 := by decide +kernel
theorem fo_10 : ∀ k, k < 20 → parseFieldDescriptor (ft_10 k).2.2.1 = some (fy_10 k) := by decide +kernel
def cn_11 : String := "SteamNationsModel"
def ft_11 : u_T := fun k => match k with
  | 0 => ("SteamNationsModel", "status", "I", false)
  | 1 => ("SteamNationsModel", "refused", "[I", true)
  | 2 => ("SteamNationsModel", "kept", "[I", true)
  | 3 => ("SteamNationsModel", "images", "[I", true)
  | 4 => ("SteamNationsModel", "hasImage", "[Z", true)
  | 5 => ("SteamNationsModel", "aside", "[I", true)
  | 6 => ("SteamNationsModel", "puffs0", "I", false)
  | 7 => ("SteamNationsModel", "words", "[B", true)
  | 8 => ("SteamNationsModel", "firstWord", "I", false)
  | 9 => ("SteamNationsModel", "lastWord", "I", false)
  | 10 => ("SteamNationsModel", "isOrders", "Z", false)
  | 11 => ("SteamNationsModel", "tape", "[B", true)
  | 12 => ("SteamNationsModel", "five", "[I", true)
  | 13 => ("SteamNationsModel", "taped", "I", false)
  | 14 => ("SteamNationsModel", "fault", "I", false)
  | 15 => ("SteamNationsModel", "code", "[I", true)
  | 16 => ("SteamNationsModel", "value", "[I", true)
  | 17 => ("SteamNationsModel", "placed", "[I", true)
  | 18 => ("SteamNationsModel", "tokens", "I", false)
  | 19 => ("SteamNationsModel", "token", "I", false)
  | 20 => ("SteamNationsModel", "leaves", "I", false)
  | 21 => ("SteamNationsModel", "bad", "I", false)
  | 22 => ("SteamNationsModel", "go", "I", false)
  | 23 => ("SteamNationsModel", "goEnd", "I", false)
  | 24 => ("SteamNationsModel", "broken", "Z", false)
  | 25 => ("SteamNationsModel", "inOrders", "Z", false)
  | 26 => ("SteamNationsModel", "asked", "[I", true)
  | 27 => ("SteamNationsModel", "orderDone", "I", false)
  | 28 => ("SteamNationsModel", "orderLatest", "I", false)
  | 29 => ("SteamNationsModel", "more", "[I", true)
  | 30 => ("SteamNationsModel", "left0", "[I", true)
  | 31 => ("SteamNationsModel", "leftAhead", "[I", true)
  | 32 => ("SteamNationsModel", "undoMany", "I", false)
  | 33 => ("SteamNationsModel", "holders", "[I", true)
  | 34 => ("SteamNationsModel", "taken", "[I", true)
  | 35 => ("SteamNationsModel", "holderMany", "I", false)
  | 36 => ("SteamNationsModel", "seatingMany", "I", false)
  | 37 => ("SteamNationsModel", "pleased0", "[I", true)
  | 38 => ("SteamNationsModel", "swaps0", "[I", true)
  | 39 => ("SteamNationsModel", "queue", "[I", true)
  | 40 => ("SteamNationsModel", "mayHave", "[Z", true)
  | 41 => ("SteamNationsModel", "wouldBe", "[I", true)
  | 42 => ("SteamNationsModel", "alike", "[I", true)
  | 43 => ("SteamNationsModel", "wet", "[I", true)
  | 44 => ("SteamNationsModel", "given", "[I", true)
  | 45 => ("SteamNationsModel", "parts0", "[J", true)
  | 46 => ("SteamNationsModel", "stopped0", "I", false)
  | 47 => ("SteamNationsModel", "orderAt", "I", false)
  | 48 => ("SteamNationsModel", "timesOf", "I", false)
  | 49 => ("SteamNationsModel", "head", "I", false)
  | 50 => ("SteamNationsModel", "sumsAre", "Z", false)
  | 51 => ("SteamNationsModel", "testIs", "Z", false)
  | 52 => ("SteamNationsModel", "sums", "[J", true)
  | 53 => ("SteamNationsModel", "drawnMoved", "[I", true)
  | 54 => ("SteamNationsModel", "drawnMany", "I", false)
  | _ => ("SteamNationsModel", "latest", "I", false)
def fy_11 : Nat → FieldType := fun k => match k with
  | 0 => .int
  | 1 => .array .int
  | 2 => .array .int
  | 3 => .array .int
  | 4 => .array .boolean
  | 5 => .array .int
  | 6 => .int
  | 7 => .array .byte
  | 8 => .int
  | 9 => .int
  | 10 => .boolean
  | 11 => .array .byte
  | 12 => .array .int
  | 13 => .int
  | 14 => .int
  | 15 => .array .int
  | 16 => .array .int
  | 17 => .array .int
  | 18 => .int
  | 19 => .int
  | 20 => .int
  | 21 => .int
  | 22 => .int
  | 23 => .int
  | 24 => .boolean
  | 25 => .boolean
  | 26 => .array .int
  | 27 => .int
  | 28 => .int
  | 29 => .array .int
  | 30 => .array .int
  | 31 => .array .int
  | 32 => .int
  | 33 => .array .int
  | 34 => .array .int
  | 35 => .int
  | 36 => .int
  | 37 => .array .int
  | 38 => .array .int
  | 39 => .array .int
  | 40 => .array .boolean
  | 41 => .array .int
  | 42 => .array .int
  | 43 => .array .int
  | 44 => .array .int
  | 45 => .array .long
  | 46 => .int
  | 47 => .int
  | 48 => .int
  | 49 => .int
  | 50 => .boolean
  | 51 => .boolean
  | 52 => .array .long
  | 53 => .array .int
  | 54 => .int
  | _ => .int
theorem nm_11 : ∀ a, a < 56 → ∀ b, b < 56 → a ≠ b → (ft_11 a).2.1 ≠ (ft_11 b).2.1 := by decide +kernel
theorem fo_11 : ∀ k, k < 56 → parseFieldDescriptor (ft_11 k).2.2.1 = some (fy_11 k) := by decide +kernel
abbrev cls : List vw_C := [(cn_0, ft_0, 7), (cn_1, ft_1, 7), (cn_2, ft_2, 2), (cn_3, ft_3, 3), (cn_4, ft_4, 3), (cn_5, ft_5, 11), (cn_6, ft_6, 5), (cn_7, ft_7, 12), (cn_8, ft_8, 3), (cn_9, ft_9, 4), (cn_10, ft_10, 20), (cn_11, ft_11, 56)]
theorem in_0 : ∀ w ∈ u_ws cn_0 ft_0 7, w ∈ gw := by decide +kernel
theorem in_1 : ∀ w ∈ u_ws cn_1 ft_1 7, w ∈ gw := by decide +kernel
theorem in_2 : ∀ w ∈ u_ws cn_2 ft_2 2, w ∈ gw := by decide +kernel
theorem in_3 : ∀ w ∈ u_ws cn_3 ft_3 3, w ∈ gw := by decide +kernel
theorem in_4 : ∀ w ∈ u_ws cn_4 ft_4 3, w ∈ gw := by decide +kernel
theorem in_5 : ∀ w ∈ u_ws cn_5 ft_5 11, w ∈ gw := by decide +kernel
theorem in_6 : ∀ w ∈ u_ws cn_6 ft_6 5, w ∈ gw := by decide +kernel
theorem in_7 : ∀ w ∈ u_ws cn_7 ft_7 12, w ∈ gw := by decide +kernel
theorem in_8 : ∀ w ∈ u_ws cn_8 ft_8 3, w ∈ gw := by decide +kernel
theorem in_9 : ∀ w ∈ u_ws cn_9 ft_9 4, w ∈ gw := by decide +kernel
theorem in_10 : ∀ w ∈ u_ws cn_10 ft_10 20, w ∈ gw := by decide +kernel
theorem in_11 : ∀ w ∈ u_ws cn_11 ft_11 56, w ∈ gw := by decide +kernel
def bw : List Cond := lw_tbl.filter (fun w => !goodWord w)
end
section
/-! ===== the abstract heap: int fields, int arrays, long arrays, reference arrays, lengths of what is made later, size ===== -/
abbrev Hp : Type := (Nat → Nat → Int32) × (Nat → Nat → Int32) × (Nat → Nat → Int64) × (Nat → Nat → Option Nat) × (Nat → Nat) × Nat
def fI (h : Hp) (a k : Nat) : Int32 := h.1 a k
def aI (h : Hp) (a i : Nat) : Int32 := h.2.1 a i
def aL (h : Hp) (a i : Nat) : Int64 := h.2.2.1 a i
def aO (h : Hp) (a i : Nat) : Option Nat := h.2.2.2.1 a i
def ln (h : Hp) (a : Nat) : Nat := h.2.2.2.2.1 a
def sz (h : Hp) : Nat := h.2.2.2.2.2
def up2 {α : Type} (f : Nat → Nat → α) (a k : Nat) (x : α) : Nat → Nat → α := fun b j => if b = a then (if j = k then x else f b j) else f b j
def sF (h : Hp) (a k : Nat) (x : Int32) : Hp := (up2 h.1 a k x, h.2)
def sA (h : Hp) (a k : Nat) (x : Int32) : Hp := (h.1, up2 h.2.1 a k x, h.2.2)
def sL (h : Hp) (a k : Nat) (x : Int64) : Hp := (h.1, h.2.1, up2 h.2.2.1 a k x, h.2.2.2)
def sO (h : Hp) (a k : Nat) (x : Option Nat) : Hp := (h.1, h.2.1, h.2.2.1, up2 h.2.2.2.1 a k x, h.2.2.2.2)
def cpA (h : Hp) (sa sp da dp n : Nat) : Hp := (h.1, (fun b j => if b = da then (if dp ≤ j ∧ j < dp + n then h.2.1 sa (sp + (j - dp)) else h.2.1 b j) else h.2.1 b j), h.2.2)
/-- a number as an index of n places -/
def inb (i : Int32) (n : Nat) : Option Nat := if 0 ≤ i.toInt ∧ i.toInt < (n : Int) then some i.toNatClampNeg else none
def b2i (b : Bool) : Int32 := if b = true then 1 else 0
def i2b (x : Int32) : Option Bool := if x = 0 then some false else if x = 1 then some true else none
theorem inb_vp {i : Int32} {n j : Nat} (h : inb i n = some j) : vp_in i n ∧ i.toNatClampNeg = j := by
  unfold inb at h
  split at h
  · rename_i c
    exact ⟨vp_in_iff.mpr c, Option.some.inj h⟩
  · cases h
theorem i2b_eq {x : Int32} {b : Bool} (h : i2b x = some b) : x = b2i b := by
  unfold i2b at h
  split at h
  · rename_i c; cases h; rw [c]; rfl
  · split at h
    · rename_i c; cases h; rw [c]; rfl
    · cases h
/-- a loop: the body goes on with a state, or ends it -/
def lp {σ ε : Type} (b : σ → Option (σ ⊕ ε)) : Nat → σ → Option ε
  | 0, _ => none
  | n + 1, s => match b s with
    | none => none
    | some (.inl s') => lp b n s'
    | some (.inr e) => some e
theorem lp_ind {σ ε : Type} {b : σ → Option (σ ⊕ ε)} {P : σ → Prop} {K : ε → Prop} (hs : ∀ s q, b s = some q → (∀ s', q = .inl s' → P s') → (∀ e, q = .inr e → K e) → P s) : ∀ (n : Nat) (s : σ) (e : ε), lp b n s = some e → K e → P s
  | 0, s, e, h, _ => by cases h
  | n + 1, s, e, h, k => by
    unfold lp at h
    cases hb : b s with
    | none => rw [hb] at h; cases h
    | some q =>
      rw [hb] at h
      cases q with
      | inl s' => exact hs s _ hb (fun t ht => by cases ht; exact lp_ind hs n s' e h k) (fun e' he => by cases he)
      | inr e' => exact hs s _ hb (fun t ht => by cases ht) (fun e2 he => by cases he; cases h; exact k)
theorem bd {α β : Type} {o : Option α} {f : α → Option β} {r : β} (h : o.bind f = some r) : ∃ a, o = some a ∧ f a = some r := by
  cases o with
  | none => cases h
  | some a => exact ⟨a, rfl, h⟩
def FU : Nat := 20000
/-! ===== kinds of the static cells ===== -/
abbrev Kd : Type := (Nat × List (Option Nat)) ⊕ (Nat × Option Nat)
def kds : List Kd := [
  .inl (10, [some 32, some 1, some 2, some 3, some 4, some 56, some 10, some 59, some 60, some 68, some 12, some 17, some 22, some 23, some 24, some 25, none, none, none, none]),
  .inr (5, some 2),
  .inr (2, some 2),
  .inr (0, some 400),
  .inl (5, [some 5, some 6, some 7, some 8, some 9, none, none, none, none, none, none]),
  .inr (0, some 401),
  .inr (0, some 401),
  .inr (0, some 401),
  .inr (0, some 800),
  .inr (0, some 72),
  .inl (4, [some 11, none, none]),
  .inr (0, some 416),
  .inl (6, [none, some 13, some 14, some 15, some 16]),
  .inr (0, some 18),
  .inr (0, some 6),
  .inr (0, some 6),
  .inr (0, some 3),
  .inl (6, [none, some 18, some 19, some 20, some 21]),
  .inr (0, some 18),
  .inr (0, some 6),
  .inr (0, some 6),
  .inr (0, some 3),
  .inr (0, some 9),
  .inr (0, some 9),
  .inr (3, some 20),
  .inr (0, some 7),
  .inl (9, [some 27, some 28, none, none]),
  .inr (0, none),
  .inr (0, none),
  .inl (2, [some 30, some 31]),
  .inr (0, some 24),
  .inr (0, some 64),
  .inl (1, [some 33, some 26, some 38, none, none, some 39, none]),
  .inl (6, [none, some 34, some 35, some 36, some 37]),
  .inr (0, some 18),
  .inr (0, some 6),
  .inr (0, some 6),
  .inr (0, some 3),
  .inr (4, some 6),
  .inr (0, some 18),
  .inl (1, [some 41, some 26, some 46, none, none, some 47, none]),
  .inl (6, [none, some 42, some 43, some 44, some 45]),
  .inr (0, some 18),
  .inr (0, some 6),
  .inr (0, some 6),
  .inr (0, some 3),
  .inr (4, some 6),
  .inr (0, some 18),
  .inl (1, [some 49, some 26, some 54, none, none, some 55, none]),
  .inl (6, [none, some 50, some 51, some 52, some 53]),
  .inr (0, some 18),
  .inr (0, some 6),
  .inr (0, some 6),
  .inr (0, some 3),
  .inr (4, some 6),
  .inr (0, some 18),
  .inl (8, [some 29, some 57, some 58]),
  .inr (0, some 18),
  .inr (0, some 9),
  .inl (3, [some 32, some 10, some 56]),
  .inl (0, [some 59, some 29, some 61, some 66, none, none, none]),
  .inl (6, [none, some 62, some 63, some 64, some 65]),
  .inr (0, some 18),
  .inr (0, some 6),
  .inr (0, some 6),
  .inr (0, some 3),
  .inl (4, [some 67, none, none]),
  .inr (0, some 416),
  .inl (7, [some 56, some 69, some 74, some 75, some 76, some 77, some 78, some 79, some 80, none, none, none]),
  .inl (6, [none, some 70, some 71, some 72, some 73]),
  .inr (0, some 18),
  .inr (0, some 6),
  .inr (0, some 6),
  .inr (0, some 3),
  .inr (0, some 720),
  .inr (0, some 7200),
  .inr (0, some 720),
  .inr (0, some 720),
  .inr (0, some 6),
  .inr (0, some 6),
  .inr (0, some 3),
  .inl (11, [none, some 82, some 83, some 84, some 85, some 86, none, some 87, none, none, none, some 88, some 89, none, none, some 90, some 91, some 92, none, none, none, none, none, none, none, none, some 93, none, none, some 94, some 95, some 96, none, some 97, some 98, none, none, some 99, some 100, some 101, some 102, some 103, some 104, some 105, some 106, some 107, none, none, none, none, none, none, some 108, some 109, none, none]),
  .inr (0, some 7),
  .inr (0, some 5662),
  .inr (0, some 11324),
  .inr (2, some 2),
  .inr (0, some 50),
  .inr (1, some 144),
  .inr (1, some 400),
  .inr (0, some 5),
  .inr (0, some 401),
  .inr (0, some 401),
  .inr (0, some 401),
  .inr (0, some 8),
  .inr (0, some 18),
  .inr (0, some 416),
  .inr (0, some 416),
  .inr (0, some 6),
  .inr (0, some 6),
  .inr (0, some 720),
  .inr (0, some 720),
  .inr (0, some 720),
  .inr (2, some 720),
  .inr (0, some 4320),
  .inr (0, some 3),
  .inr (0, some 6),
  .inr (0, some 6),
  .inr (3, some 21),
  .inr (3, some 2),
  .inr (0, some 25)]
def kd (a : Nat) : Kd := if a < 110 then kds.getD a (.inr (0, none)) else if (a - 110) % 3 = 0 then .inl (9, [some (a + 1), some (a + 2), none, none]) else .inr (0, none)
/-! ===== what the real heap holds ===== -/
/-- numbers of classes and slots; array classes; where the heap ended; addresses of what was there before; the script -/
abbrev Ex : Type := va_G × (Nat → ClassId) × Nat × (Nat → Nat) × Nat × (Nat → Int32)
def eB (E : Ex) : Nat := E.2.2.1
def eA (E : Ex) : Nat → Prop := fun q => E.2.2.1 ≤ q
def ra (E : Ex) (a : Nat) : Nat := if a < 1000000 then E.2.2.1 + a else E.2.2.2.1 (a - 1000000)
def cv (E : Ex) : Value → Value
  | .ref a => .ref (ra E a)
  | v => v
def cF (E : Ex) (g : Nat → Int32) : Nat → List (Option Nat) → List Value
  | _, [] => []
  | k, none :: l => .int (g k) :: cF E g (k + 1) l
  | k, some b :: l => .ref (ra E b) :: cF E g (k + 1) l
def cE (E : Ex) (h : Hp) (a : Nat) : va_E := match kd a with
  | .inl (ci, fs) => .inr (ci, cF E (fI h a) 0 fs)
  | .inr (t, on) => .inl (E.2.1 t, on.getD (ln h a), if t < 3 then .inl (aI h a) else if t = 3 then .inr (.inl (aL h a)) else .inr (.inr (.inr (.inr (fun i => (aO h a i).map (ra E))))))
def wsE (E : Ex) (h : Hp) : va_W := (List.range (sz h)).map (fun a => (E.2.2.1 + a, cE E h a))
def tys (E : Ex) : List (ClassId × FieldType) := [(E.2.1 0, .int), (E.2.1 1, .byte), (E.2.1 2, .boolean), (E.2.1 3, .long), (E.2.1 4, .object "SteamNations$Text"), (E.2.1 5, .object "SteamNations$House")]
def Rl (E : Ex) (h : Hp) (H : Heap) : Prop := H.size = E.2.2.1 + sz h ∧ 110 ≤ sz h ∧ sz h < 1000000 ∧ va_P E.1 cls (wsE E h) H
theorem ws_at {E : Ex} {h : Hp} {a : Nat} (ha : a < sz h) : (wsE E h)[a]? = some (E.2.2.1 + a, cE E h a) := by
  unfold wsE
  rw [List.getElem?_map, List.getElem?_range ha]
  rfl
theorem ra_lt {E : Ex} {h : Hp} {a : Nat} (ha : a < sz h) (hz : sz h < 1000000) : ra E a = E.2.2.1 + a := by
  unfold ra
  rw [if_pos (by omega)]
theorem ws_D (E : Ex) (h : Hp) : va_D (eA E) (wsE E h) := by
  have key : ∀ (k : Nat) (q : Nat × va_E), (wsE E h)[k]? = some q → q.1 = E.2.2.1 + k := by
    intro k q hk
    unfold wsE at hk
    rw [List.getElem?_map] at hk
    cases hr : (List.range (sz h))[k]? with
    | none => rw [hr] at hk; cases hk
    | some j =>
      rw [hr] at hk
      have hj : j = k := by
        obtain ⟨h1, h2⟩ := List.getElem?_eq_some_iff.mp hr
        simpa using h2.symm
      subst hj
      cases hk
      rfl
  refine ⟨fun i j p q hi hj hpq => ?_, fun k q hk => ?_⟩
  · have h1 := key i p hi
    have h2 := key j q hj
    omega
  · rw [key k q hk]
    exact Nat.le_add_right _ _
/-- one cell changed -/
theorem ws_set {E : Ex} {h h' : Hp} {a : Nat} {q : Nat × va_E} (hz : sz h' = sz h) (hq : q = (E.2.2.1 + a, cE E h' a)) (hne : ∀ b, b ≠ a → cE E h' b = cE E h b) : (wsE E h).set a q = wsE E h' := by
  apply List.ext_getElem?
  intro k
  by_cases hka : k = a
  · subst hka
    by_cases hl : k < sz h
    · rw [ws_at (h := h') (by omega), List.getElem?_set_self (by unfold wsE; simpa using hl), hq]
    · have h1 : (wsE E h')[k]? = none := by simp [wsE]; omega
      have h2 : ((wsE E h).set k q)[k]? = none := by simp [wsE]; omega
      rw [h1, h2]
  · rw [List.getElem?_set_ne (Ne.symm hka)]
    by_cases hl : k < sz h
    · rw [ws_at hl, ws_at (h := h') (by omega), hne k hka]
    · have h1 : (wsE E h')[k]? = none := by simp [wsE]; omega
      have h2 : (wsE E h)[k]? = none := by simp [wsE]; omega
      rw [h1, h2]
theorem cF_get {E : Ex} {g : Nat → Int32} : ∀ (fs : List (Option Nat)) (k j : Nat), (fs[j]? = some none → (cF E g k fs)[j]? = some (.int (g (k + j)))) ∧ (∀ b, fs[j]? = some (some b) → (cF E g k fs)[j]? = some (.ref (ra E b)))
  | [], k, j => ⟨fun h => by simp at h, fun b h => by simp at h⟩
  | none :: l, k, 0 => ⟨fun _ => rfl, fun b h => (by cases h)⟩
  | some b :: l, k, 0 => ⟨fun h => (by cases h), fun b h => (by cases h; rfl)⟩
  | none :: l, k, j + 1 => by
    have h := cF_get (E := E) (g := g) l (k + 1) j
    rw [show k + 1 + j = k + (j + 1) by omega] at h
    exact h
  | some b :: l, k, j + 1 => by
    have h := cF_get (E := E) (g := g) l (k + 1) j
    rw [show k + 1 + j = k + (j + 1) by omega] at h
    exact h
theorem cF_len {E : Ex} {g : Nat → Int32} : ∀ (fs : List (Option Nat)) (k : Nat), (cF E g k fs).length = fs.length
  | [], _ => rfl
  | none :: l, k => by simp only [cF, List.length_cons, cF_len l]
  | some b :: l, k => by simp only [cF, List.length_cons, cF_len l]
theorem cF_same {E : Ex} {g g' : Nat → Int32} : ∀ (fs : List (Option Nat)) (k : Nat), (∀ j, k ≤ j → g' j = g j) → cF E g' k fs = cF E g k fs
  | [], _, _ => rfl
  | none :: l, k, h => by
    simp only [cF]
    rw [h k (Nat.le_refl _), cF_same l (k + 1) (fun j hj => h j (by omega))]
  | some b :: l, k, h => by
    simp only [cF]
    rw [cF_same l (k + 1) (fun j hj => h j (by omega))]
theorem cF_set {E : Ex} {g : Nat → Int32} {x : Int32} : ∀ (fs : List (Option Nat)) (k j : Nat), fs[j]? = some none → (cF E g k fs).set j (.int x) = cF E (upd g (k + j) x) k fs
  | [], k, j, h => by simp at h
  | none :: l, k, 0, _ => by
    simp only [cF, List.set_cons_zero, Nat.add_zero]
    rw [cF_same (g := g) (g' := upd g k x) l (k + 1) (fun j hj => by unfold upd; rw [if_neg (by omega)])]
    simp [upd]
  | some b :: l, k, 0, h => by cases h
  | none :: l, k, j + 1, h => by
    have h2 := cF_set (E := E) (g := g) (x := x) l (k + 1) j h
    rw [show k + 1 + j = k + (j + 1) by omega] at h2
    simp only [cF, List.set_cons_succ]
    rw [h2]
    congr 2
    unfold upd
    rw [if_neg (by omega)]
  | some b :: l, k, j + 1, h => by
    have h2 := cF_set (E := E) (g := g) (x := x) l (k + 1) j h
    rw [show k + 1 + j = k + (j + 1) by omega] at h2
    simp only [cF, List.set_cons_succ]
    rw [h2]
end
section
def wrd : String := "sitter other tier nation much wish minute mood done latest inside pleased is passes keeps leaves seat out swap pass at with times if or and not "
def wrdB : List Int32 := [115, 105, 116, 116, 101, 114, 32, 111, 116, 104, 101, 114, 32, 116, 105, 101, 114, 32, 110, 97, 116, 105, 111, 110, 32, 109, 117, 99, 104, 32, 119, 105, 115, 104, 32, 109, 105, 110, 117, 116, 101, 32, 109, 111, 111, 100, 32, 100, 111, 110, 101, 32, 108, 97, 116, 101, 115, 116, 32, 105, 110, 115, 105, 100, 101, 32, 112, 108, 101, 97, 115, 101, 100, 32, 105, 115, 32, 112, 97, 115, 115, 101, 115, 32, 107, 101, 101, 112, 115, 32, 108, 101, 97, 118, 101, 115, 32, 115, 101, 97, 116, 32, 111, 117, 116, 32, 115, 119, 97, 112, 32, 112, 97, 115, 115, 32, 97, 116, 32, 119, 105, 116, 104, 32, 116, 105, 109, 101, 115, 32, 105, 102, 32, 111, 114, 32, 97, 110, 100, 32, 110, 111, 116, 32]
def bsT : List Int32 := [1, 3, -1, -1, 0, 2, 4, -1, 1, 5, -1, -1, 0, 4, 6, -1, 1, 3, 5, 7, 2, 4, 8, -1, 3, 7, -1, -1, 4, 6, 8, -1, 5, 7, -1, -1]
def moT : List Int32 := [999, 10, 9]
/-- accesses among nest mates -/
def nwF : List (String × Nat × String × String × String × String) := [("SteamNations$Room", 21, "SteamNations", "FIRST_OF_TERM", "[I", "SteamNations"), ("SteamNations$Steam", 96, "SteamNations", "BESIDE", "[I", "SteamNations")]
def nwM : List (String × Nat × MethodName × String) := [("SteamNations", 25, ⟨"SteamNations$Reader", "<init>", "()V"⟩, "SteamNations"), ("SteamNations", 32, ⟨"SteamNations$Past", "<init>", "()V"⟩, "SteamNations"), ("SteamNations", 71, ⟨"SteamNations$Machine", "<init>", "()V"⟩, "SteamNations"), ("SteamNations$Errands", 20, ⟨"SteamNations$Past", "<init>", "()V"⟩, "SteamNations"), ("SteamNations$Room", 41, ⟨"SteamNations", "oneIf", "(Z)I"⟩, "SteamNations"), ("SteamNations$Seatings", 81, ⟨"SteamNations", "oneIf", "(Z)I"⟩, "SteamNations"), ("SteamNations$Seatings", 171, ⟨"SteamNations", "areBeside", "(II)Z"⟩, "SteamNations")]
/-- what stays so of a state: tables, statics, the script, the text of words -/
def Ok (E : Ex) (U : State) : Prop :=
  va_K E.1 cls (tys E) U ∧ (∀ q ∈ nwF, va_Nw (.fieldLinkNest q.1 q.2.1 q.2.2.1 q.2.2.2.1 q.2.2.2.2.1 q.2.2.2.2.2) U) ∧ (∀ q ∈ nwM, va_Nw (.methodLinkNest q.1 q.2.1 q.2.2.1 q.2.2.2) U) ∧
  va_Z "SteamNations" "BESIDE" "[I" (.ref (E.2.2.2.1 0)) (eA E) U U.heap ∧ va_T .int (E.2.2.2.1 0) 36 (fun j => .int (bsT.getD j 0)) (eA E) U U.heap ∧
  va_Z "SteamNations" "MOST_OF_TERM" "[I" (.ref (E.2.2.2.1 1)) (eA E) U U.heap ∧ va_T .int (E.2.2.2.1 1) 3 (fun j => .int (moT.getD j 0)) (eA E) U U.heap ∧
  va_T .int (E.2.2.2.1 2) E.2.2.2.2.1 (fun j => .int (E.2.2.2.2.2 j)) (eA E) U U.heap ∧
  vk_R "SteamNations$Reader" 104 wrd (E.2.2.2.1 3) U ∧ vk_S 1 [144] [wrdB] (fun _ => E.2.2.2.1 3) (fun _ => E.2.2.2.1 4) (eA E) U U.heap ∧
  va_Z "java/lang/String" "COMPACT_STRINGS" "Z" (.int 1) (eA E) U U.heap ∧ va_Zq "jdk/internal/util/Preconditions" "SIOOBE_FORMATTER" "Ljava/util/function/BiFunction;" (eA E) U U.heap
theorem Ok.mv {E : Ex} {s U : State} (h : Ok E s) (hW : s.WarmedH U.vm) (hq : ∀ a : Nat, a < s.heap.size → ¬ eA E a → U.heap[a]? = s.heap[a]?) : Ok E U := by
  obtain ⟨h1, h2, h3, h4, h5, h6, h7, h8, h9, h10, h11, h12⟩ := h
  exact ⟨h1.moved hW.alike, fun q hm => (h2 q hm).warmF hW, fun q hm => (h3 q hm).warmM hW, (h4.kept hq).moved hW.alike, (h5.kept hq).moved hW.alike, (h6.kept hq).moved hW.alike, (h7.kept hq).moved hW.alike, (h8.kept hq).moved hW.alike, h9.warm hW, (h10.kept hq).moved hW.alike, (h11.kept hq).moved hW.alike, (h12.kept hq).moved hW.alike⟩
/-- machine, launch, environment, room, start, method, arguments, frames below, method's data, code, what is to be reached, the world's numbers -/
abbrev Xt : Type := Program × Launch × Env × Room × State × MethodId × Array Value × List Frame × Method × Code × (State → Prop) × Ex
def cl2 (E : Ex) (lv : List (Nat × Value)) : List (Nat × Value) := lv.map (fun q => (q.1, cv E q.2))
def G (X : Xt) (h : Hp) (k n pc : Nat) (lv : List (Nat × Value)) (st : List Value) : Prop := match X with
  | (p, l, e, R, s, m, args, below, meth, c, Q, E) => ∀ (H : Heap) (locs : List Loc) (ls : Array Slot), Rl E h H → va_S (eA E) s.heap H locs → lv_has ls c.maxLocals (cl2 E lv) → W p l e R s m args below meth c H locs k n Q (F0 m pc ls (st.map (cv E)))
def Cx (X : Xt) (own : String) (cc : ByteArray) (nL : Nat) (rt : Option FieldType) (D mc ms : Nat) : Prop := match X with
  | (p, l, e, R, s, m, args, below, meth, c, Q, E) => p.tables.exec = Jvm.exec ∧ c.code = cc ∧ c.maxLocals = nL ∧ s.vm.findClass own = some m.cls ∧ (∀ w ∈ gw, w.before args s = true) ∧ Ok E s ∧ meth.locks = false ∧ meth.sig.returnType = rt ∧ D ≤ R.frames ∧ 60 * D ≤ R.locals ∧ mc ≤ R.cells ∧ ms ≤ R.slots ∧ E.2.2.1 ≤ s.heap.size ∧ (own = own)
def rQ (E : Ex) (r : Option Value) (h' : Hp) : Array Value → State → Outcome → State → Prop := fun _ st oc t => oc = .returned (r.map (cv E)) ∧ Rl E h' t.heap ∧ va_F (eA E) st t
def EndQ (X : Xt) (mc ms : Nat) (r : Option Value) (h' : Hp) : Prop := match X with
  | (p, l, e, R, s, m, args, below, meth, c, Q, E) => Q = MQ below (rQ E r h') args s mc ms (eA E)
def rmH (D mc ms : Nat) : Room := { frames := D, cells := mc, slots := ms, locals := 60 * D }
def aPc (E : Ex) (av : List Value) (h : Hp) : Array Value → State → Prop := va_Pc (av.map (cv E)) (fun U => Rl E h U.heap ∧ Ok E U ∧ E.2.2.1 ≤ U.heap.size)
def MetA (y : MethodName) (cc : ByteArray) (mL : Nat) (rt : Option FieldType) (D mc ms : Nat) (av : List Value) (h : Hp) (r : Option Value) (h' : Hp) : Prop :=
  ∀ (l : Launch) (E : Ex), Met l y (.code y cc mL rt :: gw) (rmH D mc ms) (aPc E av h) (rQ E r h') mc ms (eA E)
theorem aPc_blind (E : Ex) (av : List Value) (h : Hp) : FrameBlind (aPc E av h) := by
  intro a U g mk q
  obtain ⟨h1, h2, h3, h4⟩ := q
  refine ⟨h1, h2, ?_, h4⟩
  exact h3.mv (U := U.calling g mk a) (State.WarmedH.refl U) (fun _ _ _ => rfl)
theorem cv_cat (E : Ex) (v : Value) : (cv E v).category = v.category := by cases v <;> rfl
theorem cl2_args (E : Ex) : ∀ (i : Nat) (av : List Value), lv_args i (av.map (cv E)) = cl2 E (lv_args i av)
  | _, [] => rfl
  | i, v :: l => by
    simp only [List.map_cons, lv_args, cl2, cv_cat]
    rw [cl2_args E _ l]
    rfl
theorem lg_len (E : Ex) (av : List Value) : (lg_sl (av.map (cv E))).length = (lg_sl av).length := by
  induction av with
  | nil => rfl
  | cons v l ih =>
    unfold lg_sl at ih ⊢
    simp only [List.map_cons, List.flatMap_cons, List.length_append, cv_cat, ih]
    congr 1
    split <;> rfl
theorem metA_of {y : MethodName} {cc : ByteArray} {mL : Nat} {rt : Option FieldType} {D mc ms : Nat} {av : List Value} {h h' : Hp} {r : Option Value} (hy : plainName y.cls = true) (hn : (lg_sl av).length ≤ mL)
    (body : ∀ X, Cx X y.cls cc mL rt D mc ms → EndQ X mc ms r h' → G X h 0 0 0 (lv_args 0 av) []) : MetA y cc mL rt D mc ms av h r h' := by
  intro l E
  refine Met.ofW (cc := cc) (maxL := mL) (ret := rt) hy rfl ?_
  intro p e s m args below meth c s₁ B hml hv
  obtain ⟨rfl, hR, hO, hsz⟩ := hv
  have hts := atoms_spec (ws := .code y cc mL rt :: gw) B.pre
  have hown : s.vm.findClass y.cls = some m.cls := findClass_of_methodNamed B.named
  have hl := lv_entry (av.map (cv E)) (n := mL) (by rw [lg_len]; exact hn)
  rw [lg_entry_eq]
  rw [cl2_args, ← hml] at hl
  rw [← hml]
  exact body (p, l, e, rmH D mc ms, s, m, (av.map (cv E)).toArray, below, meth, c, MQ below (rQ E r h') (av.map (cv E)).toArray s mc ms (eA E), E)
    ⟨B.exec, B.bytes, hml, hown, fun w hw => hts w (List.mem_cons_of_mem _ hw), hO, B.notSynchronized, B.returns, Nat.le_refl _, Nat.le_refl _, Nat.le_refl _, Nat.le_refl _, hsz, rfl⟩ rfl s.heap [] _ hR va_S.rf hl
/-! ===== locals ===== -/
def inl2 (q : Nat × Value) : List (Nat × Value) → List (Nat × Value)
  | [] => [q]
  | p :: l => if q.1 < p.1 then q :: p :: l else p :: inl2 q l
def stl (lv : List (Nat × Value)) (i : Nat) (v : Value) : List (Nat × Value) := inl2 (i, v) (lv.filter (fun q => !(q.1 == i) && (!(v.category == 2 && q.1 == i + 1) && !(q.1 + 1 == i && q.2.category == 2))))
theorem inl2_mem {q p : Nat × Value} : ∀ {l : List (Nat × Value)}, p ∈ inl2 q l → p = q ∨ p ∈ l
  | [], h => by simp [inl2] at h; exact Or.inl h
  | x :: l, h => by
    unfold inl2 at h
    split at h
    · rcases List.mem_cons.mp h with h | h
      · exact Or.inl h
      · exact Or.inr h
    · rcases List.mem_cons.mp h with h | h
      · exact Or.inr (h ▸ List.mem_cons_self)
      · rcases inl2_mem h with h | h
        · exact Or.inl h
        · exact Or.inr (List.mem_cons_of_mem _ h)
theorem lv_mono {ls : Array Slot} {nL : Nat} {l l' : List (Nat × Value)} (h : lv_has ls nL l) (hs : ∀ q ∈ l', q ∈ l) : lv_has ls nL l' := ⟨h.1, h.2.1, fun q hq => h.2.2 q (hs q hq)⟩
theorem stl_1 {E : Ex} {ls : Array Slot} {nL i : Nat} {lv : List (Nat × Value)} {v : Value} (hc : v.category = 1) (h : lv_has ls nL ((i, cv E v) :: (cl2 E lv).filter (fun q => !(q.1 == i) && !(q.1 + 1 == i && q.2.category == 2)))) : lv_has ls nL (cl2 E (stl lv i v)) := by
  refine lv_mono h (fun q hq => ?_)
  obtain ⟨q0, h0, rfl⟩ := List.mem_map.mp hq
  rcases inl2_mem h0 with rfl | h1
  · exact List.mem_cons_self
  · obtain ⟨h2, h3⟩ := List.mem_filter.mp h1
    refine List.mem_cons_of_mem _ (List.mem_filter.mpr ⟨List.mem_map.mpr ⟨q0, h2, rfl⟩, ?_⟩)
    simp only [cv_cat]
    simp only [Bool.and_eq_true] at h3 ⊢
    exact ⟨h3.1, h3.2.2⟩
theorem stl_2 {E : Ex} {ls : Array Slot} {nL i : Nat} {lv : List (Nat × Value)} {v : Value} (hc : v.category = 2) (h : lv_has ls nL ((i, cv E v) :: (cl2 E lv).filter (fun q => !(q.1 == i) && (!(q.1 == i + 1) && !(q.1 + 1 == i && q.2.category == 2))))) : lv_has ls nL (cl2 E (stl lv i v)) := by
  refine lv_mono h (fun q hq => ?_)
  obtain ⟨q0, h0, rfl⟩ := List.mem_map.mp hq
  rcases inl2_mem h0 with rfl | h1
  · exact List.mem_cons_self
  · obtain ⟨h2, h3⟩ := List.mem_filter.mp h1
    refine List.mem_cons_of_mem _ (List.mem_filter.mpr ⟨List.mem_map.mpr ⟨q0, h2, rfl⟩, ?_⟩)
    simp only [cv_cat]
    simp only [Bool.and_eq_true] at h3 ⊢
    refine ⟨h3.1, ?_, h3.2.2⟩
    have h4 := h3.2.1
    rw [hc] at h4
    simpa using h4
theorem cl2_at {E : Ex} {ls : Array Slot} {nL : Nat} {lv : List (Nat × Value)} (h : lv_has ls nL (cl2 E lv)) (k : Nat) {i : Nat} {v : Value} (hk : lv[k]? = some (i, v)) : ls[i]? = some (.val (cv E v)) :=
  h.2.2 (i, cv E v) (List.mem_map.mpr ⟨(i, v), List.mem_of_getElem? hk, rfl⟩)
end
section
section GR
variable {X : Xt} {own : String} {cc : ByteArray} {nL : Nat} {rt : Option FieldType} {D mc ms : Nat} {h : Hp} {k n pc : Nat} {lv : List (Nat × Value)} {st : List Value}
theorem g_iconst {i : Int} {v : Int32} (C : Cx X own cc nL rt D mc ms) (hd : decode cc pc = .ok (.iconst i, 1)) (hv : Int32.ofInt i = v) (next : G X h k n (pc + 1) lv (.int v :: st)) : G X h k n pc lv (st) := by
  obtain ⟨p, l, e, R, s, m, args, below, meth, c, Q, E⟩ := X
  obtain ⟨hx, hb, hml, hown, hts, hO, hlk, hrt, hfr, hlo, hce, hsl, hbs, -⟩ := C
  intro H locs ls hR hS hl
  exact lv_iconst hx hb hd hv (next H locs ls hR hS hl)
theorem g_bipush {i : Int} {v : Int32} (C : Cx X own cc nL rt D mc ms) (hd : decode cc pc = .ok (.bipush i, 2)) (hv : (Int8.ofInt i).toInt32 = v) (next : G X h k n (pc + 2) lv (.int v :: st)) : G X h k n pc lv (st) := by
  obtain ⟨p, l, e, R, s, m, args, below, meth, c, Q, E⟩ := X
  obtain ⟨hx, hb, hml, hown, hts, hO, hlk, hrt, hfr, hlo, hce, hsl, hbs, -⟩ := C
  intro H locs ls hR hS hl
  exact lv_bipush hx hb hd hv (next H locs ls hR hS hl)
theorem g_sipush {i : Int} {v : Int32} (C : Cx X own cc nL rt D mc ms) (hd : decode cc pc = .ok (.sipush i, 3)) (hv : (Int16.ofInt i).toInt32 = v) (next : G X h k n (pc + 3) lv (.int v :: st)) : G X h k n pc lv (st) := by
  obtain ⟨p, l, e, R, s, m, args, below, meth, c, Q, E⟩ := X
  obtain ⟨hx, hb, hml, hown, hts, hO, hlk, hrt, hfr, hlo, hce, hsl, hbs, -⟩ := C
  intro H locs ls hR hS hl
  exact lv_sipush hx hb hd hv (next H locs ls hR hS hl)
theorem g_lconst {i : Fin 2} {v : Int64} (C : Cx X own cc nL rt D mc ms) (hd : decode cc pc = .ok (.lconst i, 1)) (hv : Int64.ofNat (i : Nat) = v) (next : G X h k n (pc + 1) lv (.long v :: st)) : G X h k n pc lv (st) := by
  obtain ⟨p, l, e, R, s, m, args, below, meth, c, Q, E⟩ := X
  obtain ⟨hx, hb, hml, hown, hts, hO, hlk, hrt, hfr, hlo, hce, hsl, hbs, -⟩ := C
  intro H locs ls hR hS hl
  exact lv_lconst hx hb hd hv (next H locs ls hR hS hl)
theorem g_null  (C : Cx X own cc nL rt D mc ms) (hd : decode cc pc = .ok (.aconst_null, 1)) (next : G X h k n (pc + 1) lv (.null :: st)) : G X h k n pc lv (st) := by
  obtain ⟨p, l, e, R, s, m, args, below, meth, c, Q, E⟩ := X
  obtain ⟨hx, hb, hml, hown, hts, hO, hlk, hrt, hfr, hlo, hce, hsl, hbs, -⟩ := C
  intro H locs ls hR hS hl
  exact lv_null hx hb hd (next H locs ls hR hS hl)
theorem g_ldc {i : Nat} {v : Int32} (C : Cx X own cc nL rt D mc ms) (hd : decode cc pc = .ok (.ldc i, 2)) (hc : Cond.constant own i v ∈ gw) (next : G X h k n (pc + 2) lv (.int v :: st)) : G X h k n pc lv (st) := by
  obtain ⟨p, l, e, R, s, m, args, below, meth, c, Q, E⟩ := X
  obtain ⟨hx, hb, hml, hown, hts, hO, hlk, hrt, hfr, hlo, hce, hsl, hbs, -⟩ := C
  intro H locs ls hR hS hl
  exact lv_ldc hx hb hown (hts _ hc) hd (next H locs ls hR hS hl)
theorem g_ldcw {i : Nat} {v : Int32} (C : Cx X own cc nL rt D mc ms) (hd : decode cc pc = .ok (.ldc_w i, 3)) (hc : Cond.constant own i v ∈ gw) (next : G X h k n (pc + 3) lv (.int v :: st)) : G X h k n pc lv (st) := by
  obtain ⟨p, l, e, R, s, m, args, below, meth, c, Q, E⟩ := X
  obtain ⟨hx, hb, hml, hown, hts, hO, hlk, hrt, hfr, hlo, hce, hsl, hbs, -⟩ := C
  intro H locs ls hR hS hl
  exact lv_ldcw hx hb hown (hts _ hc) hd (next H locs ls hR hS hl)
theorem g_ldc2 {i : Nat} {v : Int64} (C : Cx X own cc nL rt D mc ms) (hd : decode cc pc = .ok (.ldc2_w i, 3)) (hc : Cond.constantLong own i v ∈ gw) (next : G X h k n (pc + 3) lv (.long v :: st)) : G X h k n pc lv (st) := by
  obtain ⟨p, l, e, R, s, m, args, below, meth, c, Q, E⟩ := X
  obtain ⟨hx, hb, hml, hown, hts, hO, hlk, hrt, hfr, hlo, hce, hsl, hbs, -⟩ := C
  intro H locs ls hR hS hl
  exact lv_ldc2 hx hb hown (hts _ hc) hd (next H locs ls hR hS hl)
theorem g_iload_n {i : Fin 4} {x : Int32} (C : Cx X own cc nL rt D mc ms) (hd : decode cc pc = .ok (.iload_n i, 1)) (q : Nat) (hq : lv[q]? = some ((i : Nat), .int x)) (next : G X h k n (pc + 1) lv (.int x :: st)) : G X h k n pc lv (st) := by
  obtain ⟨p, l, e, R, s, m, args, below, meth, c, Q, E⟩ := X
  obtain ⟨hx, hb, hml, hown, hts, hO, hlk, hrt, hfr, hlo, hce, hsl, hbs, -⟩ := C
  intro H locs ls hR hS hl
  exact lv_iload_n hx hb hd rfl (cl2_at hl q hq) (next H locs ls hR hS hl)
theorem g_iload {i : Nat} {x : Int32} (C : Cx X own cc nL rt D mc ms) (hd : decode cc pc = .ok (.iload i, 2)) (q : Nat) (hq : lv[q]? = some (i, .int x)) (next : G X h k n (pc + 2) lv (.int x :: st)) : G X h k n pc lv (st) := by
  obtain ⟨p, l, e, R, s, m, args, below, meth, c, Q, E⟩ := X
  obtain ⟨hx, hb, hml, hown, hts, hO, hlk, hrt, hfr, hlo, hce, hsl, hbs, -⟩ := C
  intro H locs ls hR hS hl
  exact lv_iload hx hb hd (cl2_at hl q hq) (next H locs ls hR hS hl)
theorem g_istore_n {i : Fin 4} {x : Int32} {lv' : List (Nat × Value)} (C : Cx X own cc nL rt D mc ms) (hd : decode cc pc = .ok (.istore_n i, 1)) (hn : (i : Nat) < nL) (hv : stl lv (i : Nat) (.int x) = lv') (next : G X h k n (pc + 1) lv' st) : G X h k n pc lv (.int x :: st) := by
  obtain ⟨p, l, e, R, s, m, args, below, meth, c, Q, E⟩ := X
  obtain ⟨hx, hb, hml, hown, hts, hO, hlk, hrt, hfr, hlo, hce, hsl, hbs, -⟩ := C
  intro H locs ls hR hS hl
  subst hv
  exact lv_istore_n hx hb hd rfl hl (by rw [hml]; exact hn) rfl (fun ls hl2 => next H locs ls hR hS (stl_1 (v := .int x) rfl hl2))
theorem g_istore {i : Nat} {x : Int32} {lv' : List (Nat × Value)} (C : Cx X own cc nL rt D mc ms) (hd : decode cc pc = .ok (.istore i, 2)) (hn : i < nL) (hv : stl lv i (.int x) = lv') (next : G X h k n (pc + 2) lv' st) : G X h k n pc lv (.int x :: st) := by
  obtain ⟨p, l, e, R, s, m, args, below, meth, c, Q, E⟩ := X
  obtain ⟨hx, hb, hml, hown, hts, hO, hlk, hrt, hfr, hlo, hce, hsl, hbs, -⟩ := C
  intro H locs ls hR hS hl
  subst hv
  exact lv_istore hx hb hd hl (by rw [hml]; exact hn) rfl (fun ls hl2 => next H locs ls hR hS (stl_1 (v := .int x) rfl hl2))
theorem g_lload_n {i : Fin 4} {x : Int64} (C : Cx X own cc nL rt D mc ms) (hd : decode cc pc = .ok (.lload_n i, 1)) (q : Nat) (hq : lv[q]? = some ((i : Nat), .long x)) (next : G X h k n (pc + 1) lv (.long x :: st)) : G X h k n pc lv (st) := by
  obtain ⟨p, l, e, R, s, m, args, below, meth, c, Q, E⟩ := X
  obtain ⟨hx, hb, hml, hown, hts, hO, hlk, hrt, hfr, hlo, hce, hsl, hbs, -⟩ := C
  intro H locs ls hR hS hl
  exact lv_lload_n hx hb hd rfl (cl2_at hl q hq) (next H locs ls hR hS hl)
theorem g_lload {i : Nat} {x : Int64} (C : Cx X own cc nL rt D mc ms) (hd : decode cc pc = .ok (.lload i, 2)) (q : Nat) (hq : lv[q]? = some (i, .long x)) (next : G X h k n (pc + 2) lv (.long x :: st)) : G X h k n pc lv (st) := by
  obtain ⟨p, l, e, R, s, m, args, below, meth, c, Q, E⟩ := X
  obtain ⟨hx, hb, hml, hown, hts, hO, hlk, hrt, hfr, hlo, hce, hsl, hbs, -⟩ := C
  intro H locs ls hR hS hl
  exact lv_lload hx hb hd (cl2_at hl q hq) (next H locs ls hR hS hl)
theorem g_lstore_n {i : Fin 4} {x : Int64} {lv' : List (Nat × Value)} (C : Cx X own cc nL rt D mc ms) (hd : decode cc pc = .ok (.lstore_n i, 1)) (hn : (i : Nat) + 1 < nL) (hv : stl lv (i : Nat) (.long x) = lv') (next : G X h k n (pc + 1) lv' st) : G X h k n pc lv (.long x :: st) := by
  obtain ⟨p, l, e, R, s, m, args, below, meth, c, Q, E⟩ := X
  obtain ⟨hx, hb, hml, hown, hts, hO, hlk, hrt, hfr, hlo, hce, hsl, hbs, -⟩ := C
  intro H locs ls hR hS hl
  subst hv
  exact lv_lstore_n hx hb hd rfl hl (by rw [hml]; exact hn) rfl (fun ls hl2 => next H locs ls hR hS (stl_2 (v := .long x) rfl hl2))
theorem g_lstore {i : Nat} {x : Int64} {lv' : List (Nat × Value)} (C : Cx X own cc nL rt D mc ms) (hd : decode cc pc = .ok (.lstore i, 2)) (hn : i + 1 < nL) (hv : stl lv i (.long x) = lv') (next : G X h k n (pc + 2) lv' st) : G X h k n pc lv (.long x :: st) := by
  obtain ⟨p, l, e, R, s, m, args, below, meth, c, Q, E⟩ := X
  obtain ⟨hx, hb, hml, hown, hts, hO, hlk, hrt, hfr, hlo, hce, hsl, hbs, -⟩ := C
  intro H locs ls hR hS hl
  subst hv
  exact lv_lstore hx hb hd hl (by rw [hml]; exact hn) rfl (fun ls hl2 => next H locs ls hR hS (stl_2 (v := .long x) rfl hl2))
theorem g_aload_n {i : Fin 4} {x : Nat} (C : Cx X own cc nL rt D mc ms) (hd : decode cc pc = .ok (.aload_n i, 1)) (q : Nat) (hq : lv[q]? = some ((i : Nat), .ref x)) (next : G X h k n (pc + 1) lv (.ref x :: st)) : G X h k n pc lv (st) := by
  obtain ⟨p, l, e, R, s, m, args, below, meth, c, Q, E⟩ := X
  obtain ⟨hx, hb, hml, hown, hts, hO, hlk, hrt, hfr, hlo, hce, hsl, hbs, -⟩ := C
  intro H locs ls hR hS hl
  exact lv_aload_n hx hb hd rfl (cl2_at hl q hq) (next H locs ls hR hS hl)
theorem g_aload {i : Nat} {x : Nat} (C : Cx X own cc nL rt D mc ms) (hd : decode cc pc = .ok (.aload i, 2)) (q : Nat) (hq : lv[q]? = some (i, .ref x)) (next : G X h k n (pc + 2) lv (.ref x :: st)) : G X h k n pc lv (st) := by
  obtain ⟨p, l, e, R, s, m, args, below, meth, c, Q, E⟩ := X
  obtain ⟨hx, hb, hml, hown, hts, hO, hlk, hrt, hfr, hlo, hce, hsl, hbs, -⟩ := C
  intro H locs ls hR hS hl
  exact lv_aload hx hb hd (cl2_at hl q hq) (next H locs ls hR hS hl)
theorem g_astore_n {i : Fin 4} {x : Nat} {lv' : List (Nat × Value)} (C : Cx X own cc nL rt D mc ms) (hd : decode cc pc = .ok (.astore_n i, 1)) (hn : (i : Nat) < nL) (hv : stl lv (i : Nat) (.ref x) = lv') (next : G X h k n (pc + 1) lv' st) : G X h k n pc lv (.ref x :: st) := by
  obtain ⟨p, l, e, R, s, m, args, below, meth, c, Q, E⟩ := X
  obtain ⟨hx, hb, hml, hown, hts, hO, hlk, hrt, hfr, hlo, hce, hsl, hbs, -⟩ := C
  intro H locs ls hR hS hl
  subst hv
  exact lv_astore_n hx hb hd rfl hl (by rw [hml]; exact hn) rfl (fun ls hl2 => next H locs ls hR hS (stl_1 (v := .ref x) rfl hl2))
theorem g_astore {i : Nat} {x : Nat} {lv' : List (Nat × Value)} (C : Cx X own cc nL rt D mc ms) (hd : decode cc pc = .ok (.astore i, 2)) (hn : i < nL) (hv : stl lv i (.ref x) = lv') (next : G X h k n (pc + 2) lv' st) : G X h k n pc lv (.ref x :: st) := by
  obtain ⟨p, l, e, R, s, m, args, below, meth, c, Q, E⟩ := X
  obtain ⟨hx, hb, hml, hown, hts, hO, hlk, hrt, hfr, hlo, hce, hsl, hbs, -⟩ := C
  intro H locs ls hR hS hl
  subst hv
  exact lv_astore hx hb hd hl (by rw [hml]; exact hn) rfl (fun ls hl2 => next H locs ls hR hS (stl_1 (v := .ref x) rfl hl2))
theorem g_iinc {i : Nat} {d : Int} {x v : Int32} {lv' : List (Nat × Value)} (C : Cx X own cc nL rt D mc ms) (hd : decode cc pc = .ok (.iinc i d, 3)) (q : Nat) (hq : lv[q]? = some (i, .int x)) (hv : x + Int32.ofInt d = v) (hn : i < nL) (hl' : stl lv i (.int v) = lv') (next : G X h k n (pc + 3) lv' st) : G X h k n pc lv st := by
  obtain ⟨p, l, e, R, s, m, args, below, meth, c, Q, E⟩ := X
  obtain ⟨hx, hb, hml, hown, hts, hO, hlk, hrt, hfr, hlo, hce, hsl, hbs, -⟩ := C
  intro H locs ls hR hS hl
  subst hl'
  exact lv_iinc hx hb hd hl (k := q) (by unfold cl2; rw [List.getElem?_map, hq]; rfl) hv (by rw [hml]; exact hn) rfl (fun ls hl2 => next H locs ls hR hS (stl_1 (v := .int v) rfl hl2))
theorem g_iadd {x y : Int32} (C : Cx X own cc nL rt D mc ms) (hd : decode cc pc = .ok (.iadd, 1)) (next : G X h k n (pc + 1) lv (.int (x + y) :: st)) : G X h k n pc lv (.int y :: .int x :: st) := by
  obtain ⟨p, l, e, R, s, m, args, below, meth, c, Q, E⟩ := X
  obtain ⟨hx, hb, hml, hown, hts, hO, hlk, hrt, hfr, hlo, hce, hsl, hbs, -⟩ := C
  intro H locs ls hR hS hl
  exact lv_iadd hx hb hd (next H locs ls hR hS hl)
theorem g_isub {x y : Int32} (C : Cx X own cc nL rt D mc ms) (hd : decode cc pc = .ok (.isub, 1)) (next : G X h k n (pc + 1) lv (.int (x - y) :: st)) : G X h k n pc lv (.int y :: .int x :: st) := by
  obtain ⟨p, l, e, R, s, m, args, below, meth, c, Q, E⟩ := X
  obtain ⟨hx, hb, hml, hown, hts, hO, hlk, hrt, hfr, hlo, hce, hsl, hbs, -⟩ := C
  intro H locs ls hR hS hl
  exact lv_isub hx hb hd (next H locs ls hR hS hl)
theorem g_imul {x y : Int32} (C : Cx X own cc nL rt D mc ms) (hd : decode cc pc = .ok (.imul, 1)) (next : G X h k n (pc + 1) lv (.int (x * y) :: st)) : G X h k n pc lv (.int y :: .int x :: st) := by
  obtain ⟨p, l, e, R, s, m, args, below, meth, c, Q, E⟩ := X
  obtain ⟨hx, hb, hml, hown, hts, hO, hlk, hrt, hfr, hlo, hce, hsl, hbs, -⟩ := C
  intro H locs ls hR hS hl
  exact lv_imul hx hb hd (next H locs ls hR hS hl)
theorem g_iand {x y : Int32} (C : Cx X own cc nL rt D mc ms) (hd : decode cc pc = .ok (.iand, 1)) (next : G X h k n (pc + 1) lv (.int (x &&& y) :: st)) : G X h k n pc lv (.int y :: .int x :: st) := by
  obtain ⟨p, l, e, R, s, m, args, below, meth, c, Q, E⟩ := X
  obtain ⟨hx, hb, hml, hown, hts, hO, hlk, hrt, hfr, hlo, hce, hsl, hbs, -⟩ := C
  intro H locs ls hR hS hl
  exact lv_iand hx hb hd (next H locs ls hR hS hl)
theorem g_ior {x y : Int32} (C : Cx X own cc nL rt D mc ms) (hd : decode cc pc = .ok (.ior, 1)) (next : G X h k n (pc + 1) lv (.int (x ||| y) :: st)) : G X h k n pc lv (.int y :: .int x :: st) := by
  obtain ⟨p, l, e, R, s, m, args, below, meth, c, Q, E⟩ := X
  obtain ⟨hx, hb, hml, hown, hts, hO, hlk, hrt, hfr, hlo, hce, hsl, hbs, -⟩ := C
  intro H locs ls hR hS hl
  exact lv_ior hx hb hd (next H locs ls hR hS hl)
theorem g_ixor {x y : Int32} (C : Cx X own cc nL rt D mc ms) (hd : decode cc pc = .ok (.ixor, 1)) (next : G X h k n (pc + 1) lv (.int (x ^^^ y) :: st)) : G X h k n pc lv (.int y :: .int x :: st) := by
  obtain ⟨p, l, e, R, s, m, args, below, meth, c, Q, E⟩ := X
  obtain ⟨hx, hb, hml, hown, hts, hO, hlk, hrt, hfr, hlo, hce, hsl, hbs, -⟩ := C
  intro H locs ls hR hS hl
  exact lv_ixor hx hb hd (next H locs ls hR hS hl)
theorem g_ishl {x y : Int32} (C : Cx X own cc nL rt D mc ms) (hd : decode cc pc = .ok (.ishl, 1)) (next : G X h k n (pc + 1) lv (.int (x <<< (y &&& 31)) :: st)) : G X h k n pc lv (.int y :: .int x :: st) := by
  obtain ⟨p, l, e, R, s, m, args, below, meth, c, Q, E⟩ := X
  obtain ⟨hx, hb, hml, hown, hts, hO, hlk, hrt, hfr, hlo, hce, hsl, hbs, -⟩ := C
  intro H locs ls hR hS hl
  exact lv_ishl hx hb hd (next H locs ls hR hS hl)
theorem g_ishr {x y : Int32} (C : Cx X own cc nL rt D mc ms) (hd : decode cc pc = .ok (.ishr, 1)) (next : G X h k n (pc + 1) lv (.int (x >>> (y &&& 31)) :: st)) : G X h k n pc lv (.int y :: .int x :: st) := by
  obtain ⟨p, l, e, R, s, m, args, below, meth, c, Q, E⟩ := X
  obtain ⟨hx, hb, hml, hown, hts, hO, hlk, hrt, hfr, hlo, hce, hsl, hbs, -⟩ := C
  intro H locs ls hR hS hl
  exact lv_ishr hx hb hd (next H locs ls hR hS hl)
theorem g_idiv {x y : Int32} (C : Cx X own cc nL rt D mc ms) (hd : decode cc pc = .ok (.idiv, 1)) (hne : ¬ y = 0) (next : G X h k n (pc + 1) lv (.int (x / y) :: st)) : G X h k n pc lv (.int y :: .int x :: st) := by
  obtain ⟨p, l, e, R, s, m, args, below, meth, c, Q, E⟩ := X
  obtain ⟨hx, hb, hml, hown, hts, hO, hlk, hrt, hfr, hlo, hce, hsl, hbs, -⟩ := C
  intro H locs ls hR hS hl
  exact lv_idiv hx hb hd hne (next H locs ls hR hS hl)
theorem g_irem {x y : Int32} (C : Cx X own cc nL rt D mc ms) (hd : decode cc pc = .ok (.irem, 1)) (hne : ¬ y = 0) (next : G X h k n (pc + 1) lv (.int (x - x / y * y) :: st)) : G X h k n pc lv (.int y :: .int x :: st) := by
  obtain ⟨p, l, e, R, s, m, args, below, meth, c, Q, E⟩ := X
  obtain ⟨hx, hb, hml, hown, hts, hO, hlk, hrt, hfr, hlo, hce, hsl, hbs, -⟩ := C
  intro H locs ls hR hS hl
  exact lv_irem hx hb hd hne (next H locs ls hR hS hl)
theorem g_ineg {x : Int32} (C : Cx X own cc nL rt D mc ms) (hd : decode cc pc = .ok (.ineg, 1)) (next : G X h k n (pc + 1) lv (.int (-x) :: st)) : G X h k n pc lv (.int x :: st) := by
  obtain ⟨p, l, e, R, s, m, args, below, meth, c, Q, E⟩ := X
  obtain ⟨hx, hb, hml, hown, hts, hO, hlk, hrt, hfr, hlo, hce, hsl, hbs, -⟩ := C
  intro H locs ls hR hS hl
  exact lv_ineg hx hb hd (next H locs ls hR hS hl)
theorem g_iushr {x y : Int32} (C : Cx X own cc nL rt D mc ms) (hd : decode cc pc = .ok (.iushr, 1)) (next : G X h k n (pc + 1) lv (.int ((x.toUInt32 >>> (y.toUInt32 &&& Int32.toUInt32 31)).toInt32) :: st)) : G X h k n pc lv (.int y :: .int x :: st) := by
  obtain ⟨p, l, e, R, s, m, args, below, meth, c, Q, E⟩ := X
  obtain ⟨hx, hb, hml, hown, hts, hO, hlk, hrt, hfr, hlo, hce, hsl, hbs, -⟩ := C
  intro H locs ls hR hS hl
  exact lv_iushr hx hb hd rfl (next H locs ls hR hS hl)
theorem g_ladd {x y : Int64} (C : Cx X own cc nL rt D mc ms) (hd : decode cc pc = .ok (.ladd, 1)) (next : G X h k n (pc + 1) lv (.long (x + y) :: st)) : G X h k n pc lv (.long y :: .long x :: st) := by
  obtain ⟨p, l, e, R, s, m, args, below, meth, c, Q, E⟩ := X
  obtain ⟨hx, hb, hml, hown, hts, hO, hlk, hrt, hfr, hlo, hce, hsl, hbs, -⟩ := C
  intro H locs ls hR hS hl
  exact lv_ladd hx hb hd (next H locs ls hR hS hl)
theorem g_lsub {x y : Int64} (C : Cx X own cc nL rt D mc ms) (hd : decode cc pc = .ok (.lsub, 1)) (next : G X h k n (pc + 1) lv (.long (x - y) :: st)) : G X h k n pc lv (.long y :: .long x :: st) := by
  obtain ⟨p, l, e, R, s, m, args, below, meth, c, Q, E⟩ := X
  obtain ⟨hx, hb, hml, hown, hts, hO, hlk, hrt, hfr, hlo, hce, hsl, hbs, -⟩ := C
  intro H locs ls hR hS hl
  exact lv_lsub hx hb hd (next H locs ls hR hS hl)
theorem g_lmul {x y : Int64} (C : Cx X own cc nL rt D mc ms) (hd : decode cc pc = .ok (.lmul, 1)) (next : G X h k n (pc + 1) lv (.long (x * y) :: st)) : G X h k n pc lv (.long y :: .long x :: st) := by
  obtain ⟨p, l, e, R, s, m, args, below, meth, c, Q, E⟩ := X
  obtain ⟨hx, hb, hml, hown, hts, hO, hlk, hrt, hfr, hlo, hce, hsl, hbs, -⟩ := C
  intro H locs ls hR hS hl
  exact lv_lmul hx hb hd (next H locs ls hR hS hl)
theorem g_ldiv {x y : Int64} (C : Cx X own cc nL rt D mc ms) (hd : decode cc pc = .ok (.ldiv, 1)) (hne : ¬ y = 0) (next : G X h k n (pc + 1) lv (.long (x / y) :: st)) : G X h k n pc lv (.long y :: .long x :: st) := by
  obtain ⟨p, l, e, R, s, m, args, below, meth, c, Q, E⟩ := X
  obtain ⟨hx, hb, hml, hown, hts, hO, hlk, hrt, hfr, hlo, hce, hsl, hbs, -⟩ := C
  intro H locs ls hR hS hl
  exact lv_ldiv hx hb hd hne (next H locs ls hR hS hl)
theorem g_lrem {x y : Int64} (C : Cx X own cc nL rt D mc ms) (hd : decode cc pc = .ok (.lrem, 1)) (hne : ¬ y = 0) (next : G X h k n (pc + 1) lv (.long (x - x / y * y) :: st)) : G X h k n pc lv (.long y :: .long x :: st) := by
  obtain ⟨p, l, e, R, s, m, args, below, meth, c, Q, E⟩ := X
  obtain ⟨hx, hb, hml, hown, hts, hO, hlk, hrt, hfr, hlo, hce, hsl, hbs, -⟩ := C
  intro H locs ls hR hS hl
  exact lv_lrem hx hb hd hne (next H locs ls hR hS hl)
theorem g_lcmp {x y : Int64} (C : Cx X own cc nL rt D mc ms) (hd : decode cc pc = .ok (.lcmp, 1)) (next : G X h k n (pc + 1) lv (.int (lg_cmp x y) :: st)) : G X h k n pc lv (.long y :: .long x :: st) := by
  obtain ⟨p, l, e, R, s, m, args, below, meth, c, Q, E⟩ := X
  obtain ⟨hx, hb, hml, hown, hts, hO, hlk, hrt, hfr, hlo, hce, hsl, hbs, -⟩ := C
  intro H locs ls hR hS hl
  exact W.lcmp hx hb hd (next H locs ls hR hS hl)
theorem g_i2l {x : Int32} (C : Cx X own cc nL rt D mc ms) (hd : decode cc pc = .ok (.i2l, 1)) (next : G X h k n (pc + 1) lv (.long x.toInt64 :: st)) : G X h k n pc lv (.int x :: st) := by
  obtain ⟨p, l, e, R, s, m, args, below, meth, c, Q, E⟩ := X
  obtain ⟨hx, hb, hml, hown, hts, hO, hlk, hrt, hfr, hlo, hce, hsl, hbs, -⟩ := C
  intro H locs ls hR hS hl
  exact lv_i2l hx hb hd rfl (next H locs ls hR hS hl)
theorem g_l2i {x : Int64} (C : Cx X own cc nL rt D mc ms) (hd : decode cc pc = .ok (.l2i, 1)) (next : G X h k n (pc + 1) lv (.int x.toInt32 :: st)) : G X h k n pc lv (.long x :: st) := by
  obtain ⟨p, l, e, R, s, m, args, below, meth, c, Q, E⟩ := X
  obtain ⟨hx, hb, hml, hown, hts, hO, hlk, hrt, hfr, hlo, hce, hsl, hbs, -⟩ := C
  intro H locs ls hR hS hl
  exact lv_l2i hx hb hd rfl (next H locs ls hR hS hl)
theorem g_i2b {x : Int32} (C : Cx X own cc nL rt D mc ms) (hd : decode cc pc = .ok (.i2b, 1)) (next : G X h k n (pc + 1) lv (.int x.toInt8.toInt32 :: st)) : G X h k n pc lv (.int x :: st) := by
  obtain ⟨p, l, e, R, s, m, args, below, meth, c, Q, E⟩ := X
  obtain ⟨hx, hb, hml, hown, hts, hO, hlk, hrt, hfr, hlo, hce, hsl, hbs, -⟩ := C
  intro H locs ls hR hS hl
  exact lv_i2b hx hb hd rfl (next H locs ls hR hS hl)
theorem g_i2c {x : Int32} (C : Cx X own cc nL rt D mc ms) (hd : decode cc pc = .ok (.i2c, 1)) (next : G X h k n (pc + 1) lv (.int (x.toUInt32 % 65536).toInt32 :: st)) : G X h k n pc lv (.int x :: st) := by
  obtain ⟨p, l, e, R, s, m, args, below, meth, c, Q, E⟩ := X
  obtain ⟨hx, hb, hml, hown, hts, hO, hlk, hrt, hfr, hlo, hce, hsl, hbs, -⟩ := C
  intro H locs ls hR hS hl
  exact lv_i2c hx hb hd rfl (next H locs ls hR hS hl)
theorem g_dup {v : Value} (C : Cx X own cc nL rt D mc ms) (hd : decode cc pc = .ok (.dup, 1)) (hv : v.category = 1) (next : G X h k n (pc + 1) lv (v :: v :: st)) : G X h k n pc lv (v :: st) := by
  obtain ⟨p, l, e, R, s, m, args, below, meth, c, Q, E⟩ := X
  obtain ⟨hx, hb, hml, hown, hts, hO, hlk, hrt, hfr, hlo, hce, hsl, hbs, -⟩ := C
  intro H locs ls hR hS hl
  exact lv_dup hx hb hd (by rw [cv_cat]; exact hv) (next H locs ls hR hS hl)
theorem g_pop {v : Value} (C : Cx X own cc nL rt D mc ms) (hd : decode cc pc = .ok (.pop, 1)) (hv : v.category = 1) (next : G X h k n (pc + 1) lv (st)) : G X h k n pc lv (v :: st) := by
  obtain ⟨p, l, e, R, s, m, args, below, meth, c, Q, E⟩ := X
  obtain ⟨hx, hb, hml, hown, hts, hO, hlk, hrt, hfr, hlo, hce, hsl, hbs, -⟩ := C
  intro H locs ls hR hS hl
  exact lv_pop hx hb hd (by rw [cv_cat]; exact hv) (next H locs ls hR hS hl)
theorem g_dup2 {v w : Value} (C : Cx X own cc nL rt D mc ms) (hd : decode cc pc = .ok (.dup2, 1)) (hv : v.category = 1) (hw : w.category = 1) (next : G X h k n (pc + 1) lv (v :: w :: v :: w :: st)) : G X h k n pc lv (v :: w :: st) := by
  obtain ⟨p, l, e, R, s, m, args, below, meth, c, Q, E⟩ := X
  obtain ⟨hx, hb, hml, hown, hts, hO, hlk, hrt, hfr, hlo, hce, hsl, hbs, -⟩ := C
  intro H locs ls hR hS hl
  exact lv_dup2_11 hx hb hd (by rw [cv_cat]; exact hv) (by rw [cv_cat]; exact hw) (next H locs ls hR hS hl)
theorem g_if_eq {x : Int32} {off : Int} (tgt : Nat) (C : Cx X own cc nL rt D mc ms) (hd : decode cc pc = .ok (.ifCond .eq off, 3)) (ht : (pc : Int) + off = (tgt : Int)) (kt : x = 0 → G X h k n tgt lv st) (kf : ¬ x = 0 → G X h k n (pc + 3) lv st) : G X h k n pc lv (.int x :: st) := by
  obtain ⟨p, l, e, R, s, m, args, below, meth, c, Q, E⟩ := X
  obtain ⟨hx, hb, hml, hown, hts, hO, hlk, hrt, hfr, hlo, hce, hsl, hbs, -⟩ := C
  intro H locs ls hR hS hl
  exact lv_if_eq hx hb hd ht (fun q => kt q H locs ls hR hS hl) (fun q => kf q H locs ls hR hS hl)
theorem g_ic_eq {x y : Int32} {off : Int} (tgt : Nat) (C : Cx X own cc nL rt D mc ms) (hd : decode cc pc = .ok (.if_icmp .eq off, 3)) (ht : (pc : Int) + off = (tgt : Int)) (kt : x = y → G X h k n tgt lv st) (kf : ¬ x = y → G X h k n (pc + 3) lv st) : G X h k n pc lv (.int y :: .int x :: st) := by
  obtain ⟨p, l, e, R, s, m, args, below, meth, c, Q, E⟩ := X
  obtain ⟨hx, hb, hml, hown, hts, hO, hlk, hrt, hfr, hlo, hce, hsl, hbs, -⟩ := C
  intro H locs ls hR hS hl
  exact lv_icmp_eq hx hb hd ht (fun q => kt q H locs ls hR hS hl) (fun q => kf q H locs ls hR hS hl)
theorem g_if_ne {x : Int32} {off : Int} (tgt : Nat) (C : Cx X own cc nL rt D mc ms) (hd : decode cc pc = .ok (.ifCond .ne off, 3)) (ht : (pc : Int) + off = (tgt : Int)) (kt : ¬ x = 0 → G X h k n tgt lv st) (kf : x = 0 → G X h k n (pc + 3) lv st) : G X h k n pc lv (.int x :: st) := by
  obtain ⟨p, l, e, R, s, m, args, below, meth, c, Q, E⟩ := X
  obtain ⟨hx, hb, hml, hown, hts, hO, hlk, hrt, hfr, hlo, hce, hsl, hbs, -⟩ := C
  intro H locs ls hR hS hl
  exact lv_if_ne hx hb hd ht (fun q => kt q H locs ls hR hS hl) (fun q => kf q H locs ls hR hS hl)
theorem g_ic_ne {x y : Int32} {off : Int} (tgt : Nat) (C : Cx X own cc nL rt D mc ms) (hd : decode cc pc = .ok (.if_icmp .ne off, 3)) (ht : (pc : Int) + off = (tgt : Int)) (kt : ¬ x = y → G X h k n tgt lv st) (kf : x = y → G X h k n (pc + 3) lv st) : G X h k n pc lv (.int y :: .int x :: st) := by
  obtain ⟨p, l, e, R, s, m, args, below, meth, c, Q, E⟩ := X
  obtain ⟨hx, hb, hml, hown, hts, hO, hlk, hrt, hfr, hlo, hce, hsl, hbs, -⟩ := C
  intro H locs ls hR hS hl
  exact lv_icmp_ne hx hb hd ht (fun q => kt q H locs ls hR hS hl) (fun q => kf q H locs ls hR hS hl)
theorem g_if_lt {x : Int32} {off : Int} (tgt : Nat) (C : Cx X own cc nL rt D mc ms) (hd : decode cc pc = .ok (.ifCond .lt off, 3)) (ht : (pc : Int) + off = (tgt : Int)) (kt : x < 0 → G X h k n tgt lv st) (kf : ¬ x < 0 → G X h k n (pc + 3) lv st) : G X h k n pc lv (.int x :: st) := by
  obtain ⟨p, l, e, R, s, m, args, below, meth, c, Q, E⟩ := X
  obtain ⟨hx, hb, hml, hown, hts, hO, hlk, hrt, hfr, hlo, hce, hsl, hbs, -⟩ := C
  intro H locs ls hR hS hl
  exact lv_if_lt hx hb hd ht (fun q => kt q H locs ls hR hS hl) (fun q => kf q H locs ls hR hS hl)
theorem g_ic_lt {x y : Int32} {off : Int} (tgt : Nat) (C : Cx X own cc nL rt D mc ms) (hd : decode cc pc = .ok (.if_icmp .lt off, 3)) (ht : (pc : Int) + off = (tgt : Int)) (kt : x < y → G X h k n tgt lv st) (kf : ¬ x < y → G X h k n (pc + 3) lv st) : G X h k n pc lv (.int y :: .int x :: st) := by
  obtain ⟨p, l, e, R, s, m, args, below, meth, c, Q, E⟩ := X
  obtain ⟨hx, hb, hml, hown, hts, hO, hlk, hrt, hfr, hlo, hce, hsl, hbs, -⟩ := C
  intro H locs ls hR hS hl
  exact lv_icmp_lt hx hb hd ht (fun q => kt q H locs ls hR hS hl) (fun q => kf q H locs ls hR hS hl)
theorem g_if_ge {x : Int32} {off : Int} (tgt : Nat) (C : Cx X own cc nL rt D mc ms) (hd : decode cc pc = .ok (.ifCond .ge off, 3)) (ht : (pc : Int) + off = (tgt : Int)) (kt : 0 ≤ x → G X h k n tgt lv st) (kf : ¬ 0 ≤ x → G X h k n (pc + 3) lv st) : G X h k n pc lv (.int x :: st) := by
  obtain ⟨p, l, e, R, s, m, args, below, meth, c, Q, E⟩ := X
  obtain ⟨hx, hb, hml, hown, hts, hO, hlk, hrt, hfr, hlo, hce, hsl, hbs, -⟩ := C
  intro H locs ls hR hS hl
  exact lv_if_ge hx hb hd ht (fun q => kt q H locs ls hR hS hl) (fun q => kf q H locs ls hR hS hl)
theorem g_ic_ge {x y : Int32} {off : Int} (tgt : Nat) (C : Cx X own cc nL rt D mc ms) (hd : decode cc pc = .ok (.if_icmp .ge off, 3)) (ht : (pc : Int) + off = (tgt : Int)) (kt : y ≤ x → G X h k n tgt lv st) (kf : ¬ y ≤ x → G X h k n (pc + 3) lv st) : G X h k n pc lv (.int y :: .int x :: st) := by
  obtain ⟨p, l, e, R, s, m, args, below, meth, c, Q, E⟩ := X
  obtain ⟨hx, hb, hml, hown, hts, hO, hlk, hrt, hfr, hlo, hce, hsl, hbs, -⟩ := C
  intro H locs ls hR hS hl
  exact lv_icmp_ge hx hb hd ht (fun q => kt q H locs ls hR hS hl) (fun q => kf q H locs ls hR hS hl)
theorem g_if_gt {x : Int32} {off : Int} (tgt : Nat) (C : Cx X own cc nL rt D mc ms) (hd : decode cc pc = .ok (.ifCond .gt off, 3)) (ht : (pc : Int) + off = (tgt : Int)) (kt : 0 < x → G X h k n tgt lv st) (kf : ¬ 0 < x → G X h k n (pc + 3) lv st) : G X h k n pc lv (.int x :: st) := by
  obtain ⟨p, l, e, R, s, m, args, below, meth, c, Q, E⟩ := X
  obtain ⟨hx, hb, hml, hown, hts, hO, hlk, hrt, hfr, hlo, hce, hsl, hbs, -⟩ := C
  intro H locs ls hR hS hl
  exact lv_if_gt hx hb hd ht (fun q => kt q H locs ls hR hS hl) (fun q => kf q H locs ls hR hS hl)
theorem g_ic_gt {x y : Int32} {off : Int} (tgt : Nat) (C : Cx X own cc nL rt D mc ms) (hd : decode cc pc = .ok (.if_icmp .gt off, 3)) (ht : (pc : Int) + off = (tgt : Int)) (kt : y < x → G X h k n tgt lv st) (kf : ¬ y < x → G X h k n (pc + 3) lv st) : G X h k n pc lv (.int y :: .int x :: st) := by
  obtain ⟨p, l, e, R, s, m, args, below, meth, c, Q, E⟩ := X
  obtain ⟨hx, hb, hml, hown, hts, hO, hlk, hrt, hfr, hlo, hce, hsl, hbs, -⟩ := C
  intro H locs ls hR hS hl
  exact lv_icmp_gt hx hb hd ht (fun q => kt q H locs ls hR hS hl) (fun q => kf q H locs ls hR hS hl)
theorem g_if_le {x : Int32} {off : Int} (tgt : Nat) (C : Cx X own cc nL rt D mc ms) (hd : decode cc pc = .ok (.ifCond .le off, 3)) (ht : (pc : Int) + off = (tgt : Int)) (kt : x ≤ 0 → G X h k n tgt lv st) (kf : ¬ x ≤ 0 → G X h k n (pc + 3) lv st) : G X h k n pc lv (.int x :: st) := by
  obtain ⟨p, l, e, R, s, m, args, below, meth, c, Q, E⟩ := X
  obtain ⟨hx, hb, hml, hown, hts, hO, hlk, hrt, hfr, hlo, hce, hsl, hbs, -⟩ := C
  intro H locs ls hR hS hl
  exact lv_if_le hx hb hd ht (fun q => kt q H locs ls hR hS hl) (fun q => kf q H locs ls hR hS hl)
theorem g_ic_le {x y : Int32} {off : Int} (tgt : Nat) (C : Cx X own cc nL rt D mc ms) (hd : decode cc pc = .ok (.if_icmp .le off, 3)) (ht : (pc : Int) + off = (tgt : Int)) (kt : x ≤ y → G X h k n tgt lv st) (kf : ¬ x ≤ y → G X h k n (pc + 3) lv st) : G X h k n pc lv (.int y :: .int x :: st) := by
  obtain ⟨p, l, e, R, s, m, args, below, meth, c, Q, E⟩ := X
  obtain ⟨hx, hb, hml, hown, hts, hO, hlk, hrt, hfr, hlo, hce, hsl, hbs, -⟩ := C
  intro H locs ls hR hS hl
  exact lv_icmp_le hx hb hd ht (fun q => kt q H locs ls hR hS hl) (fun q => kf q H locs ls hR hS hl)
theorem g_goto {off : Int} (tgt : Nat) (C : Cx X own cc nL rt D mc ms) (hd : decode cc pc = .ok (.goto off, 3)) (ht : (pc : Int) + off = (tgt : Int)) (next : G X h k n tgt lv st) : G X h k n pc lv st := by
  obtain ⟨p, l, e, R, s, m, args, below, meth, c, Q, E⟩ := X
  obtain ⟨hx, hb, hml, hown, hts, hO, hlk, hrt, hfr, hlo, hce, hsl, hbs, -⟩ := C
  intro H locs ls hR hS hl
  exact lv_goto hx hb hd ht (next H locs ls hR hS hl)
theorem g_ifnonnull {a : Nat} {off : Int} (tgt : Nat) (C : Cx X own cc nL rt D mc ms) (hd : decode cc pc = .ok (.ifnonnull off, 3)) (ht : (pc : Int) + off = (tgt : Int)) (next : G X h k n tgt lv st) : G X h k n pc lv (.ref a :: st) := by
  obtain ⟨p, l, e, R, s, m, args, below, meth, c, Q, E⟩ := X
  obtain ⟨hx, hb, hml, hown, hts, hO, hlk, hrt, hfr, hlo, hce, hsl, hbs, -⟩ := C
  intro H locs ls hR hS hl
  exact lv_ifnonnull hx hb hd ht (next H locs ls hR hS hl)
theorem g_ifnullN {off : Int} (tgt : Nat) (C : Cx X own cc nL rt D mc ms) (hd : decode cc pc = .ok (.ifnull off, 3)) (ht : (pc : Int) + off = (tgt : Int)) (next : G X h k n tgt lv st) : G X h k n pc lv (.null :: st) := by
  obtain ⟨p, l, e, R, s, m, args, below, meth, c, Q, E⟩ := X
  obtain ⟨hx, hb, hml, hown, hts, hO, hlk, hrt, hfr, hlo, hce, hsl, hbs, -⟩ := C
  intro H locs ls hR hS hl
  exact lv_ifnullN hx hb hd ht (next H locs ls hR hS hl)
theorem g_ifnull {a : Nat} {off : Int} (C : Cx X own cc nL rt D mc ms) (hd : decode cc pc = .ok (.ifnull off, 3)) (next : G X h k n (pc + 3) lv st) : G X h k n pc lv (.ref a :: st) := by
  obtain ⟨p, l, e, R, s, m, args, below, meth, c, Q, E⟩ := X
  obtain ⟨hx, hb, hml, hown, hts, hO, hlk, hrt, hfr, hlo, hce, hsl, hbs, -⟩ := C
  intro H locs ls hR hS hl
  exact lv_ifnull hx hb hd (next H locs ls hR hS hl)
theorem g_ifnonnullN {off : Int} (C : Cx X own cc nL rt D mc ms) (hd : decode cc pc = .ok (.ifnonnull off, 3)) (next : G X h k n (pc + 3) lv st) : G X h k n pc lv (.null :: st) := by
  obtain ⟨p, l, e, R, s, m, args, below, meth, c, Q, E⟩ := X
  obtain ⟨hx, hb, hml, hown, hts, hO, hlk, hrt, hfr, hlo, hce, hsl, hbs, -⟩ := C
  intro H locs ls hR hS hl
  exact lv_ifnonnullN hx hb hd (next H locs ls hR hS hl)
theorem g_tabO {dflt lo hi : Int} {offs : Array Int} {len : Nat} {x : Int32} (tgt : Nat) (C : Cx X own cc nL rt D mc ms) (hd : decode cc pc = .ok (.tableswitch dflt lo hi offs, len)) (hc : x.toInt < lo ∨ hi < x.toInt) (ht : (pc : Int) + dflt = (tgt : Int)) (next : G X h k n tgt lv st) : G X h k n pc lv (.int x :: st) := by
  obtain ⟨p, l, e, R, s, m, args, below, meth, c, Q, E⟩ := X
  obtain ⟨hx, hb, hml, hown, hts, hO, hlk, hrt, hfr, hlo, hce, hsl, hbs, -⟩ := C
  intro H locs ls hR hS hl
  exact lv_tableOut hx hb hd hc ht (next H locs ls hR hS hl)
theorem g_tabI {dflt lo hi off : Int} {offs : Array Int} {len i : Nat} {x : Int32} (tgt : Nat) (C : Cx X own cc nL rt D mc ms) (hd : decode cc pc = .ok (.tableswitch dflt lo hi offs, len)) (hc : ¬ (x.toInt < lo ∨ hi < x.toInt)) (hi : i = (x.toInt - lo).toNat) (ho : offs[i]? = some off) (ht : (pc : Int) + off = (tgt : Int)) (next : G X h k n tgt lv st) : G X h k n pc lv (.int x :: st) := by
  obtain ⟨p, l, e, R, s, m, args, below, meth, c, Q, E⟩ := X
  obtain ⟨hx, hb, hml, hown, hts, hO, hlk, hrt, hfr, hlo, hce, hsl, hbs, -⟩ := C
  intro H locs ls hR hS hl
  subst hi
  exact lv_tableIn hx hb hd (fun q => hc (Or.inl q)) (fun q => hc (Or.inr q)) ho ht (next H locs ls hR hS hl)
theorem g_sub {lv' : List (Nat × Value)} (ks : List Nat) (hs : lv_pick lv ks = lv') (next : G X h k n pc lv' st) : G X h k n pc lv st := by
  obtain ⟨p, l, e, R, s, m, args, below, meth, c, Q, E⟩ := X
  intro H locs ls hR hS hl
  refine next H locs ls hR hS (lv_mono hl (fun q hq => ?_))
  obtain ⟨q0, h0, rfl⟩ := List.mem_map.mp hq
  rw [← hs] at h0
  obtain ⟨j, -, hj⟩ := List.mem_filterMap.mp h0
  exact List.mem_map.mpr ⟨q0, List.mem_of_getElem? hj, rfl⟩
theorem g_widen {k' n' : Nat} (h1 : k ≤ k') (h2 : n ≤ n') (next : G X h k' n' pc lv st) : G X h k n pc lv st := by
  obtain ⟨p, l, e, R, s, m, args, below, meth, c, Q, E⟩ := X
  intro H locs ls hR hS hl
  exact W.widen h1 h2 (next H locs ls hR hS hl)
theorem g_iret {x : Int32} (C : Cx X own cc nL (some .int) D mc ms) (hQ : EndQ X k n (some (.int x)) h) (hd : decode cc pc = .ok (.ireturn, 1)) : G X h k n pc lv [.int x] := by
  obtain ⟨p, l, e, R, s, m, args, below, meth, c, Q, E⟩ := X
  obtain ⟨hx, hb, hml, hown, hts, hO, hlk, hrt, hfr, hlo, hce, hsl, hbs, -⟩ := C
  intro H locs ls hR hS hl
  have hQ : Q = _ := hQ
  subst hQ
  exact W.iret hx hb hrt (fun t ht hw => ⟨rfl, by rw [ht]; exact hR, hS.F ht⟩) hS.2.2 hd
theorem g_lret {x : Int64} (C : Cx X own cc nL (some .long) D mc ms) (hQ : EndQ X k n (some (.long x)) h) (hd : decode cc pc = .ok (.lreturn, 1)) : G X h k n pc lv [.long x] := by
  obtain ⟨p, l, e, R, s, m, args, below, meth, c, Q, E⟩ := X
  obtain ⟨hx, hb, hml, hown, hts, hO, hlk, hrt, hfr, hlo, hce, hsl, hbs, -⟩ := C
  intro H locs ls hR hS hl
  have hQ : Q = _ := hQ
  subst hQ
  exact W.lret hx hb hrt (fun t ht hw => ⟨rfl, by rw [ht]; exact hR, hS.F ht⟩) hS.2.2 hd
theorem b2i_narrow (b : Bool) : narrow .boolean (.int (b2i b)) = .int (b2i b) ∧ fits .boolean (.int (b2i b)) = true := by cases b <;> exact ⟨by decide +kernel, by decide +kernel⟩
theorem g_zret {b : Bool} {x : Int32} (C : Cx X own cc nL (some .boolean) D mc ms) (hQ : EndQ X k n (some (.int (b2i b))) h) (hx0 : x = b2i b) (hd : decode cc pc = .ok (.ireturn, 1)) : G X h k n pc lv [.int x] := by
  subst hx0
  obtain ⟨p, l, e, R, s, m, args, below, meth, c, Q, E⟩ := X
  obtain ⟨hx, hb, hml, hown, hts, hO, hlk, hrt, hfr, hlo, hce, hsl, hbs, -⟩ := C
  intro H locs ls hR hS hl
  have hQ : Q = _ := hQ
  subst hQ
  exact W.zret hx hb hrt (b2i_narrow b).1 (fun t ht hw => ⟨rfl, by rw [ht]; exact hR, hS.F ht⟩) hS.2.2 hd
theorem g_vret (C : Cx X own cc nL none D mc ms) (hQ : EndQ X k n none h) (hd : decode cc pc = .ok (.return_, 1)) : G X h k n pc lv [] := by
  obtain ⟨p, l, e, R, s, m, args, below, meth, c, Q, E⟩ := X
  obtain ⟨hx, hb, hml, hown, hts, hO, hlk, hrt, hfr, hlo, hce, hsl, hbs, -⟩ := C
  intro H locs ls hR hS hl
  have hQ : Q = _ := hQ
  subst hQ
  exact W.vret hx hb hrt (fun t ht hw => ⟨rfl, by rw [ht]; exact hR, hS.F ht⟩) hS.2.2 hd
theorem g_aret {a : Nat} {cn : String} (C : Cx X own cc nL (some (.object cn)) D mc ms) (hQ : EndQ X k n (some (.ref a)) h) (hd : decode cc pc = .ok (.areturn, 1)) : G X h k n pc lv [.ref a] := by
  obtain ⟨p, l, e, R, s, m, args, below, meth, c, Q, E⟩ := X
  obtain ⟨hx, hb, hml, hown, hts, hO, hlk, hrt, hfr, hlo, hce, hsl, hbs, -⟩ := C
  intro H locs ls hR hS hl
  have hQ : Q = _ := hQ
  subst hQ
  exact W.aret hx hb hrt (Or.inl ⟨_, rfl⟩) (Or.inr ⟨_, rfl⟩) (fun t ht hw => ⟨rfl, by rw [ht]; exact hR, hS.F ht⟩) hS.2.2 hd
theorem g_aretN {cn : String} (C : Cx X own cc nL (some (.object cn)) D mc ms) (hQ : EndQ X k n (some .null) h) (hd : decode cc pc = .ok (.areturn, 1)) : G X h k n pc lv [.null] := by
  obtain ⟨p, l, e, R, s, m, args, below, meth, c, Q, E⟩ := X
  obtain ⟨hx, hb, hml, hown, hts, hO, hlk, hrt, hfr, hlo, hce, hsl, hbs, -⟩ := C
  intro H locs ls hR hS hl
  have hQ : Q = _ := hQ
  subst hQ
  exact W.aret hx hb hrt (Or.inl ⟨_, rfl⟩) (Or.inl rfl) (fun t ht hw => ⟨rfl, by rw [ht]; exact hR, hS.F ht⟩) hS.2.2 hd
end GR
end
section
section GH
variable {X : Xt} {own : String} {cc : ByteArray} {nL : Nat} {rt : Option FieldType} {D mc ms : Nat} {h : Hp} {k n pc : Nat} {lv : List (Nat × Value)} {st : List Value}
/-- a link to field f of class number ci: its type, whether it is final -/
def FLk (own : String) (idx ci f : Nat) (ty : FieldType) (fin : Bool) : Prop := ∃ (C : String) (T : u_T) (N : Nat) (ty0 : Nat → FieldType), cls[ci]? = some (C, T, N) ∧ f < N ∧ (∀ w ∈ u_ws C T N, w ∈ gw) ∧ (∀ k, k < N → parseFieldDescriptor (T k).2.2.1 = some (ty0 k)) ∧ (∀ a, a < N → ∀ b, b < N → a ≠ b → (T a).2.1 ≠ (T b).2.1) ∧ Cond.fieldLink own idx (T f).1 (T f).2.1 (T f).2.2.1 ∈ gw ∧ ty0 f = ty ∧ (T f).2.2.2 = fin
theorem sz_of {E : Ex} {H : Heap} {a : Nat} (hR : Rl E h H) (ha : a < 110 ∨ a < sz h) : a < sz h := by
  obtain ⟨-, h1, -, -⟩ := hR
  rcases ha with ha | ha
  · omega
  · exact ha
theorem cE_o {E : Ex} {a ci : Nat} {fs : List (Option Nat)} (hk : kd a = .inl (ci, fs)) : cE E h a = .inr (ci, cF E (fI h a) 0 fs) := by unfold cE; rw [hk]
theorem cE_i {E : Ex} {a t : Nat} {on : Option Nat} (hk : kd a = .inr (t, on)) (ht : t < 3) : cE E h a = .inl (E.2.1 t, on.getD (ln h a), .inl (aI h a)) := by unfold cE; rw [hk]; simp only [if_pos ht]
theorem cE_l {E : Ex} {a : Nat} {on : Option Nat} (hk : kd a = .inr (3, on)) : cE E h a = .inl (E.2.1 3, on.getD (ln h a), .inr (.inl (aL h a))) := by unfold cE; rw [hk]; rfl
theorem cE_r {E : Ex} {a t : Nat} {on : Option Nat} (hk : kd a = .inr (t, on)) (ht : 3 < t) : cE E h a = .inl (E.2.1 t, on.getD (ln h a), .inr (.inr (.inr (.inr (fun i => (aO h a i).map (ra E)))))) := by
  unfold cE; rw [hk]; simp only [if_neg (show ¬ t < 3 by omega), if_neg (show ¬ t = 3 by omega)]
theorem g_getI {idx ci f a : Nat} {fs : List (Option Nat)} {ty : FieldType} {fin : Bool} (C : Cx X own cc nL rt D mc ms) (hd : decode cc pc = .ok (.getfield idx, 3)) (hF : FLk own idx ci f ty fin) (hk : kd a = .inl (ci, fs)) (hf : fs[f]? = some none) (ha : a < 110 ∨ a < sz h) (next : G X h k n (pc + 3) lv (.int (fI h a f) :: st)) : G X h k n pc lv (.ref a :: st) := by
  obtain ⟨p, l, e, R, s, m, args, below, meth, c, Q, E⟩ := X
  obtain ⟨hx, hb, hml, hown, hts, hO, hlk, hrt, hfr, hlo, hce, hsl, hbs, -⟩ := C
  obtain ⟨cN, T, N, ty0, h1, h2, h3, h4, h5, h6, h7, h8⟩ := hF
  intro H locs ls hR hS hl
  have ha := sz_of hR ha
  have hz := hR.2.2.1
  have hq := ws_at (E := E) ha
  rw [cE_o hk] at hq
  have hv := (cF_get (E := E) (g := fI h a) fs 0 f).1 hf
  rw [Nat.zero_add] at hv
  have e1 : cv E (.ref a) = .ref (E.2.2.1 + a) := by show Value.ref (ra E a) = _; rw [ra_lt ha hz]
  rw [List.map_cons, e1]
  exact va_get hx hb hts h3 hown hO.1 hR.2.2.2 a hq h1 f h2 (hts _ h6) (fun _ h => h) hv hd (next H locs ls hR hS hl)
theorem g_getR {idx ci f a b : Nat} {fs : List (Option Nat)} {ty : FieldType} {fin : Bool} (C : Cx X own cc nL rt D mc ms) (hd : decode cc pc = .ok (.getfield idx, 3)) (hF : FLk own idx ci f ty fin) (hk : kd a = .inl (ci, fs)) (hf : fs[f]? = some (some b)) (ha : a < 110 ∨ a < sz h) (next : G X h k n (pc + 3) lv (.ref b :: st)) : G X h k n pc lv (.ref a :: st) := by
  obtain ⟨p, l, e, R, s, m, args, below, meth, c, Q, E⟩ := X
  obtain ⟨hx, hb, hml, hown, hts, hO, hlk, hrt, hfr, hlo, hce, hsl, hbs, -⟩ := C
  obtain ⟨cN, T, N, ty0, h1, h2, h3, h4, h5, h6, h7, h8⟩ := hF
  intro H locs ls hR hS hl
  have ha := sz_of hR ha
  have hz := hR.2.2.1
  have hq := ws_at (E := E) ha
  rw [cE_o hk] at hq
  have hv := (cF_get (E := E) (g := fI h a) fs 0 f).2 b hf
  have e1 : cv E (.ref a) = .ref (E.2.2.1 + a) := by show Value.ref (ra E a) = _; rw [ra_lt ha hz]
  rw [List.map_cons, e1]
  exact va_get hx hb hts h3 hown hO.1 hR.2.2.2 a hq h1 f h2 (hts _ h6) (fun _ h => h) hv hd (next H locs ls hR hS hl)
/-- a cell of the world changed in its place -/
theorem Rl_put {E : Ex} {H H1 : Heap} {h' : Hp} {a : Nat} (hR : Rl E h H) (ha : a < sz h) (hz : sz h' = sz h) (hs : H1.size = H.size) (hne : ∀ b, b ≠ a → cE E h' b = cE E h b) (oq : ∀ q : Nat, q ≠ E.2.2.1 + a → H1[q]? = H[q]?) (he : va_at E.1 cls (E.2.2.1 + a, cE E h' a) H1) : Rl E h' H1 := by
  obtain ⟨r1, r2, r3, r4⟩ := hR
  refine ⟨by rw [hs, hz]; exact r1, by omega, by omega, ?_⟩
  have hP := r4.set (ws_D E h) (ws_at ha) he oq
  rw [ws_set hz rfl hne] at hP
  exact hP
theorem cE_sF {E : Ex} {a f : Nat} {x : Int32} : ∀ b, b ≠ a → cE E (sF h a f x) b = cE E h b := by
  intro b hb
  have e2 : fI (sF h a f x) b = fI h b := by
    funext j
    show up2 h.1 a f x b j = h.1 b j
    simp only [up2, if_neg hb]
  unfold cE
  rw [e2]
  rfl
theorem fI_sF {a f : Nat} {x : Int32} : fI (sF h a f x) a = upd (fI h a) f x := by
  funext j
  show up2 h.1 a f x a j = upd (fI h a) f x j
  simp only [up2, upd, if_true]
  rfl
theorem aI_sA {a i : Nat} {x : Int32} : aI (sA h a i x) a = upd (aI h a) i x := by
  funext j
  show up2 h.2.1 a i x a j = upd (aI h a) i x j
  simp only [up2, upd, if_true]
  rfl
theorem aL_sL {a i : Nat} {x : Int64} : aL (sL h a i x) a = vp_updL (aL h a) i x := by
  funext j
  show up2 h.2.2.1 a i x a j = vp_updL (aL h a) i x j
  simp only [up2, vp_updL, if_true]
  rfl
theorem aO_sO {a i : Nat} {x : Option Nat} : aO (sO h a i x) a = va_up (aO h a) i x := by
  funext j
  show up2 h.2.2.2.1 a i x a j = va_up (aO h a) i x j
  simp only [up2, va_up, if_true]
  rfl
theorem cE_sA {E : Ex} {a i : Nat} {x : Int32} : ∀ b, b ≠ a → cE E (sA h a i x) b = cE E h b := by
  intro b hb
  have e2 : aI (sA h a i x) b = aI h b := by
    funext j
    show up2 h.2.1 a i x b j = h.2.1 b j
    simp only [up2, if_neg hb]
  unfold cE
  rw [e2]
  rfl
theorem cE_sL {E : Ex} {a i : Nat} {x : Int64} : ∀ b, b ≠ a → cE E (sL h a i x) b = cE E h b := by
  intro b hb
  have e2 : aL (sL h a i x) b = aL h b := by
    funext j
    show up2 h.2.2.1 a i x b j = h.2.2.1 b j
    simp only [up2, if_neg hb]
  unfold cE
  rw [e2]
  rfl
theorem cE_sO {E : Ex} {a i : Nat} {x : Option Nat} : ∀ b, b ≠ a → cE E (sO h a i x) b = cE E h b := by
  intro b hb
  have e2 : aO (sO h a i x) b = aO h b := by
    funext j
    show up2 h.2.2.2.1 a i x b j = h.2.2.2.1 b j
    simp only [up2, if_neg hb]
  unfold cE
  rw [e2]
  rfl
theorem cv_ref {E : Ex} {H : Heap} {a : Nat} (hR : Rl E h H) (ha : a < sz h) : cv E (.ref a) = .ref (E.2.2.1 + a) := by show Value.ref (ra E a) = _; rw [ra_lt ha hR.2.2.1]
theorem g_putI {idx ci f a : Nat} {fs : List (Option Nat)} {ty : FieldType} {x : Int32} (C : Cx X own cc nL rt D mc ms) (hd : decode cc pc = .ok (.putfield idx, 3)) (hF : FLk own idx ci f ty false) (hn : narrow ty (.int x) = .int x) (ht : fits ty (.int x) = true) (hk : kd a = .inl (ci, fs)) (hf : fs[f]? = some none) (ha : a < 110 ∨ a < sz h) (next : G X (sF h a f x) k n (pc + 3) lv st) : G X h k n pc lv (.int x :: .ref a :: st) := by
  obtain ⟨p, l, e, R, s, m, args, below, meth, c, Q, E⟩ := X
  obtain ⟨hx, hb, hml, hown, hts, hO, hlk, hrt, hfr, hlo, hce, hsl, hbs, -⟩ := C
  obtain ⟨cN, T, N, ty0, h1, h2, h3, h4, h5, h6, h7, h8⟩ := hF
  intro H locs ls hR hS hl
  have ha := sz_of hR ha
  have hq := ws_at (E := E) ha
  rw [cE_o hk] at hq
  rw [List.map_cons, List.map_cons, cv_ref hR ha]
  have hd7 : parseFieldDescriptor (T f).2.2.1 = some ty := by rw [h4 f h2, h7]
  have hlen : f < (cF E (fI h a) 0 fs).length := by rw [cF_len]; exact (List.getElem?_eq_some_iff.mp hf).1
  have hap := va_apart (own := own) hts h3 ty0 h4 h5 hO.1 h1
  obtain ⟨r, g1, cell, q1, q2, q3, q4⟩ := hR.2.2.2 a _ hq
  have hr : r = (cN, T, N) := Option.some.inj (g1.symm.trans h1)
  subst hr
  obtain ⟨hSl, hfc, kC, hkC, hkind⟩ := hO.1.1 ci _ h1
  obtain ⟨cf, kf, fi, fd, hi, hsl2⟩ := hSl f h2
  have hlay := hts _ (h3 _ (u_in_lay h2))
  unfold u_lay at hlay
  rw [if_neg (by rw [h8]; decide)] at hlay
  have hst := (u_facts hfc hkC (u_lays hts h3 h2) hi).1
  have h6' := u_store hfc hkC hkind hlay hi hd7 hn ht
  refine W.putK hx hb (f := fd) ⟨hown, hts _ h6, ⟨_, _, _, hi⟩, hst⟩ (by rw [q2]; exact h6') q1 q3 (by rw [hsl2]; exact k2_hasslot (q4 f h2)) rfl rfl hd fun H' e1 e2 e3 => ?_
  rw [hsl2] at e1
  refine next H' _ ls (Rl_put hR ha rfl e2 cE_sF e3 ?_) (hS.put e2 e3 (Nat.le_add_right _ _)) hl
  rw [cE_o hk, fI_sF]
  have e4 := cF_set (E := E) (g := fI h a) (x := x) fs 0 f hf
  rw [Nat.zero_add] at e4
  rw [← e4]
  exact ⟨_, h1, t_OB.to (V := updV (vp_V (cF E (fI h a) 0 fs)) f (.int x)) ⟨_, e1, q2, q3, t_set q4 hap h2 (.int x)⟩ (fun j _ => vp_updV_set hlen (.int x) j)⟩
theorem ty_at {E : Ex} (t : Nat) {ty : FieldType} (h : [FieldType.int, .byte, .boolean, .long, .object "SteamNations$Text", .object "SteamNations$House"][t]? = some ty) : (tys E)[t]? = some (E.2.1 t, ty) := by
  match t, h with
  | 0, h => cases h; rfl
  | 1, h => cases h; rfl
  | 2, h => cases h; rfl
  | 3, h => cases h; rfl
  | 4, h => cases h; rfl
  | 5, h => cases h; rfl
  | t + 6, h => simp at h
/-- the length of an array cell -/
def alen (h : Hp) (a : Nat) (on : Option Nat) : Nat := on.getD (ln h a)
theorem g_alen {a t : Nat} {on : Option Nat} {v : Int32} (C : Cx X own cc nL rt D mc ms) (hd : decode cc pc = .ok (.arraylength, 1)) (hk : kd a = .inr (t, on)) (ht : t < 6) (ha : a < 110 ∨ a < sz h) (hv : Int32.ofNat (alen h a on) = v) (next : G X h k n (pc + 1) lv (.int v :: st)) : G X h k n pc lv (.ref a :: st) := by
  obtain ⟨p, l, e, R, s, m, args, below, meth, c, Q, E⟩ := X
  obtain ⟨hx, hb, hml, hown, hts, hO, hlk, hrt, hfr, hlo, hce, hsl, hbs, -⟩ := C
  intro H locs ls hR hS hl
  have ha := sz_of hR ha
  have hq := ws_at (E := E) ha
  rw [List.map_cons, cv_ref hR ha]
  obtain ⟨ty, hty⟩ : ∃ ty, [FieldType.int, .byte, .boolean, .long, .object "SteamNations$Text", .object "SteamNations$House"][t]? = some ty := ⟨_, List.getElem?_eq_getElem (by simpa using ht)⟩
  have hq2 : ∃ x : vp_A, (wsE E h)[a]? = some (E.2.2.1 + a, .inl (E.2.1 t, x)) ∧ x.1 = alen h a on := by
    unfold cE at hq
    rw [hk] at hq
    exact ⟨_, hq, rfl⟩
  obtain ⟨x, hq3, hx1⟩ := hq2
  exact va_alen hx hb hO.1 hR.2.2.2 a t hq3 (ty_at t hty) (by rw [hx1]; exact hv) hd (next H locs ls hR hS hl)
theorem g_iald {a j : Nat} {on : Option Nat} {i : Int32} (C : Cx X own cc nL rt D mc ms) (hd : decode cc pc = .ok (.iaload, 1)) (hk : kd a = .inr (0, on)) (ha : a < 110 ∨ a < sz h) (hj : inb i (alen h a on) = some j) (next : G X h k n (pc + 1) lv (.int (aI h a j) :: st)) : G X h k n pc lv (.int i :: .ref a :: st) := by
  obtain ⟨p, l, e, R, s, m, args, below, meth, c, Q, E⟩ := X
  obtain ⟨hx, hb, hml, hown, hts, hO, hlk, hrt, hfr, hlo, hce, hsl, hbs, -⟩ := C
  intro H locs ls hR hS hl
  have ha := sz_of hR ha
  have hq := ws_at (E := E) ha
  rw [cE_i hk (by omega)] at hq
  rw [List.map_cons, List.map_cons, cv_ref hR ha]
  obtain ⟨hin, hj2⟩ := inb_vp hj
  subst hj2
  exact va_iald hx hb hO.1 hR.2.2.2 a 0 hq rfl hin hd (next H locs ls hR hS hl)
theorem g_bald {a j : Nat} {on : Option Nat} {i : Int32} (C : Cx X own cc nL rt D mc ms) (hd : decode cc pc = .ok (.baload, 1)) (hk : kd a = .inr (1, on)) (ha : a < 110 ∨ a < sz h) (hj : inb i (alen h a on) = some j) (next : G X h k n (pc + 1) lv (.int (aI h a j) :: st)) : G X h k n pc lv (.int i :: .ref a :: st) := by
  obtain ⟨p, l, e, R, s, m, args, below, meth, c, Q, E⟩ := X
  obtain ⟨hx, hb, hml, hown, hts, hO, hlk, hrt, hfr, hlo, hce, hsl, hbs, -⟩ := C
  intro H locs ls hR hS hl
  have ha := sz_of hR ha
  have hq := ws_at (E := E) ha
  rw [cE_i hk (by omega)] at hq
  rw [List.map_cons, List.map_cons, cv_ref hR ha]
  obtain ⟨hin, hj2⟩ := inb_vp hj
  subst hj2
  exact va_bald hx hb hO.1 hR.2.2.2 a 1 hq rfl hin hd (next H locs ls hR hS hl)
theorem g_zald {a j : Nat} {on : Option Nat} {i : Int32} (C : Cx X own cc nL rt D mc ms) (hd : decode cc pc = .ok (.baload, 1)) (hk : kd a = .inr (2, on)) (ha : a < 110 ∨ a < sz h) (hj : inb i (alen h a on) = some j) (next : G X h k n (pc + 1) lv (.int (aI h a j) :: st)) : G X h k n pc lv (.int i :: .ref a :: st) := by
  obtain ⟨p, l, e, R, s, m, args, below, meth, c, Q, E⟩ := X
  obtain ⟨hx, hb, hml, hown, hts, hO, hlk, hrt, hfr, hlo, hce, hsl, hbs, -⟩ := C
  intro H locs ls hR hS hl
  have ha := sz_of hR ha
  have hq := ws_at (E := E) ha
  rw [cE_i hk (by omega)] at hq
  rw [List.map_cons, List.map_cons, cv_ref hR ha]
  obtain ⟨hin, hj2⟩ := inb_vp hj
  subst hj2
  exact va_zald hx hb hO.1 hR.2.2.2 a 2 hq rfl hin hd (next H locs ls hR hS hl)
theorem g_lald {a j : Nat} {on : Option Nat} {i : Int32} (C : Cx X own cc nL rt D mc ms) (hd : decode cc pc = .ok (.laload, 1)) (hk : kd a = .inr (3, on)) (ha : a < 110 ∨ a < sz h) (hj : inb i (alen h a on) = some j) (next : G X h k n (pc + 1) lv (.long (aL h a j) :: st)) : G X h k n pc lv (.int i :: .ref a :: st) := by
  obtain ⟨p, l, e, R, s, m, args, below, meth, c, Q, E⟩ := X
  obtain ⟨hx, hb, hml, hown, hts, hO, hlk, hrt, hfr, hlo, hce, hsl, hbs, -⟩ := C
  intro H locs ls hR hS hl
  have ha := sz_of hR ha
  have hq := ws_at (E := E) ha
  rw [cE_l hk] at hq
  rw [List.map_cons, List.map_cons, cv_ref hR ha]
  obtain ⟨hin, hj2⟩ := inb_vp hj
  subst hj2
  exact va_lald hx hb hO.1 hR.2.2.2 a 3 hq rfl hin hd (next H locs ls hR hS hl)
/-- a reference out of an array of references: null or a cell -/
theorem g_aald {a j t : Nat} {on : Option Nat} {i : Int32} (C : Cx X own cc nL rt D mc ms) (hd : decode cc pc = .ok (.aaload, 1)) (hk : kd a = .inr (t, on)) (ht : t = 4 ∨ t = 5) (ha : a < 110 ∨ a < sz h) (hj : inb i (alen h a on) = some j) (nextN : aO h a j = none → G X h k n (pc + 1) lv (.null :: st)) (next : ∀ b, aO h a j = some b → G X h k n (pc + 1) lv (.ref b :: st)) : G X h k n pc lv (.int i :: .ref a :: st) := by
  obtain ⟨p, l, e, R, s, m, args, below, meth, c, Q, E⟩ := X
  obtain ⟨hx, hb, hml, hown, hts, hO, hlk, hrt, hfr, hlo, hce, hsl, hbs, -⟩ := C
  intro H locs ls hR hS hl
  have ha := sz_of hR ha
  have hq := ws_at (E := E) ha
  rw [cE_r hk (by omega)] at hq
  rw [List.map_cons, List.map_cons, cv_ref hR ha]
  obtain ⟨hin, hj2⟩ := inb_vp hj
  subst hj2
  have key : W p l e R s m args below meth c H locs k n Q (F0 m (pc + 1) ls (va_rf ((aO h a i.toNatClampNeg).map (ra E)) :: st.map (cv E))) := by
    cases ho : aO h a i.toNatClampNeg with
    | none => exact nextN ho H locs ls hR hS hl
    | some b => exact next b ho H locs ls hR hS hl
  rcases ht with rfl | rfl
  · exact va_aldq hx hb hO.1 hR.2.2.2 a 4 hq rfl hin hd key
  · exact va_aldq hx hb hO.1 hR.2.2.2 a 5 hq rfl hin hd key
theorem g_iast {a j : Nat} {on : Option Nat} {i x : Int32} (C : Cx X own cc nL rt D mc ms) (hd : decode cc pc = .ok (.iastore, 1)) (hk : kd a = .inr (0, on)) (ha : a < 110 ∨ a < sz h) (hj : inb i (alen h a on) = some j) (next : G X (sA h a j x) k n (pc + 1) lv st) : G X h k n pc lv (.int x :: .int i :: .ref a :: st) := by
  obtain ⟨p, l, e, R, s, m, args, below, meth, c, Q, E⟩ := X
  obtain ⟨hx, hb, hml, hown, hts, hO, hlk, hrt, hfr, hlo, hce, hsl, hbs, -⟩ := C
  intro H locs ls hR hS hl
  have ha := sz_of hR ha
  have hq := ws_at (E := E) ha
  rw [cE_i hk (by omega)] at hq
  rw [List.map_cons, List.map_cons, List.map_cons, cv_ref hR ha]
  obtain ⟨hin, hj2⟩ := inb_vp hj
  subst hj2
  refine W.iast hx hb (hR.2.2.2 a _ hq) ((hO.1.2 0 _ rfl).1 _ (fun j => .int (aI h a j))) (fun q => by cases q) (by show ¬ (i < 0 ∨ (arrV _ _ _).slots.size ≤ _); rw [arrV_size]; exact hin) rfl rfl hd fun H1 e1 z oq => ?_
  refine next H1 _ ls (Rl_put hR ha rfl z cE_sA oq ?_) (hS.put z oq (Nat.le_add_right _ _)) hl
  rw [cE_i hk (by omega), aI_sA]
  show H1[E.2.2.1 + a]? = some (vp_cell _ _)
  rw [e1, vp_cell_i, vp_cell_i, arrV_store]
  congr 2
  funext q
  by_cases hq : q = i.toNatClampNeg
  · subst hq; simp [updV, upd]
  · simp [updV, upd, hq]
theorem g_bast {a j : Nat} {on : Option Nat} {i x : Int32} (C : Cx X own cc nL rt D mc ms) (hd : decode cc pc = .ok (.bastore, 1)) (hk : kd a = .inr (1, on)) (ha : a < 110 ∨ a < sz h) (hj : inb i (alen h a on) = some j) (next : G X (sA h a j x.toInt8.toInt32) k n (pc + 1) lv st) : G X h k n pc lv (.int x :: .int i :: .ref a :: st) := by
  obtain ⟨p, l, e, R, s, m, args, below, meth, c, Q, E⟩ := X
  obtain ⟨hx, hb, hml, hown, hts, hO, hlk, hrt, hfr, hlo, hce, hsl, hbs, -⟩ := C
  intro H locs ls hR hS hl
  have ha := sz_of hR ha
  have hq := ws_at (E := E) ha
  rw [cE_i hk (by omega)] at hq
  rw [List.map_cons, List.map_cons, List.map_cons, cv_ref hR ha]
  obtain ⟨hin, hj2⟩ := inb_vp hj
  subst hj2
  refine W.bast hx hb (hR.2.2.2 a _ hq) ((hO.1.2 1 _ rfl).1 _ (fun j => .int (aI h a j))) (fun q => by cases q) (by show ¬ (i < 0 ∨ (arrV _ _ _).slots.size ≤ _); rw [arrV_size]; exact hin) rfl rfl hd fun H1 e1 z oq => ?_
  refine next H1 _ ls (Rl_put hR ha rfl z cE_sA oq ?_) (hS.put z oq (Nat.le_add_right _ _)) hl
  rw [cE_i hk (by omega), aI_sA]
  show H1[E.2.2.1 + a]? = some (vp_cell _ _)
  rw [e1, vp_cell_i, vp_cell_i, arrV_store]
  congr 2
  funext q
  by_cases hq : q = i.toNatClampNeg
  · subst hq
    simp only [updV, upd, if_true]
    first | rfl | (simp [vp_nar_byte]; done) | (rw [← vp_nar_byte]; simp [vp_nar]; done)
  · simp [updV, upd, hq]
theorem g_zast {a j : Nat} {on : Option Nat} {i x : Int32} {b : Bool} (C : Cx X own cc nL rt D mc ms) (hd : decode cc pc = .ok (.bastore, 1)) (hk : kd a = .inr (2, on)) (ha : a < 110 ∨ a < sz h) (hj : inb i (alen h a on) = some j) (hb0 : x = b2i b) (next : G X (sA h a j (b2i b)) k n (pc + 1) lv st) : G X h k n pc lv (.int x :: .int i :: .ref a :: st) := by
  subst hb0
  obtain ⟨p, l, e, R, s, m, args, below, meth, c, Q, E⟩ := X
  obtain ⟨hx, hb, hml, hown, hts, hO, hlk, hrt, hfr, hlo, hce, hsl, hbs, -⟩ := C
  intro H locs ls hR hS hl
  have ha := sz_of hR ha
  have hq := ws_at (E := E) ha
  rw [cE_i hk (by omega)] at hq
  rw [List.map_cons, List.map_cons, List.map_cons, cv_ref hR ha]
  obtain ⟨hin, hj2⟩ := inb_vp hj
  subst hj2
  refine W.zast hx hb (hR.2.2.2 a _ hq) ((hO.1.2 2 _ rfl).1 _ (fun j => .int (aI h a j))) (fun q => by cases q) (by show ¬ (i < 0 ∨ (arrV _ _ _).slots.size ≤ _); rw [arrV_size]; exact hin) rfl rfl hd fun H1 e1 z oq => ?_
  refine next H1 _ ls (Rl_put hR ha rfl z cE_sA oq ?_) (hS.put z oq (Nat.le_add_right _ _)) hl
  rw [cE_i hk (by omega), aI_sA]
  show H1[E.2.2.1 + a]? = some (vp_cell _ _)
  rw [e1, vp_cell_i, vp_cell_i, arrV_store]
  congr 2
  funext q
  by_cases hq : q = i.toNatClampNeg
  · subst hq
    simp only [updV, upd, if_true]
    exact (b2i_narrow b).1
  · simp [updV, upd, hq]
theorem g_last {a j : Nat} {on : Option Nat} {i : Int32} {x : Int64} (C : Cx X own cc nL rt D mc ms) (hd : decode cc pc = .ok (.lastore, 1)) (hk : kd a = .inr (3, on)) (ha : a < 110 ∨ a < sz h) (hj : inb i (alen h a on) = some j) (next : G X (sL h a j x) k n (pc + 1) lv st) : G X h k n pc lv (.long x :: .int i :: .ref a :: st) := by
  obtain ⟨p, l, e, R, s, m, args, below, meth, c, Q, E⟩ := X
  obtain ⟨hx, hb, hml, hown, hts, hO, hlk, hrt, hfr, hlo, hce, hsl, hbs, -⟩ := C
  intro H locs ls hR hS hl
  have ha := sz_of hR ha
  have hq := ws_at (E := E) ha
  rw [cE_l hk] at hq
  rw [List.map_cons, List.map_cons, List.map_cons, cv_ref hR ha]
  obtain ⟨hin, hj2⟩ := inb_vp hj
  subst hj2
  refine W.last hx hb (hR.2.2.2 a _ hq) ((hO.1.2 3 _ rfl).1 _ (fun j => .long (aL h a j))) (fun q => by cases q) (by show ¬ (i < 0 ∨ (arrV _ _ _).slots.size ≤ _); rw [arrV_size]; exact hin) rfl rfl hd fun H1 e1 z oq => ?_
  refine next H1 _ ls (Rl_put hR ha rfl z cE_sL oq ?_) (hS.put z oq (Nat.le_add_right _ _)) hl
  rw [cE_l hk, aL_sL]
  show H1[E.2.2.1 + a]? = some (vp_cell _ _)
  rw [e1, vp_cell_l, vp_cell_l, arrV_store]
  congr 2
  funext q
  by_cases hq : q = i.toNatClampNeg
  · subst hq; simp [updV, vp_updL]
  · simp [updV, vp_updL, hq]
end GH
end
section
section GC
variable {X : Xt} {own : String} {cc : ByteArray} {nL : Nat} {rt : Option FieldType} {D mc ms : Nat} {h : Hp} {k n pc : Nat} {lv : List (Nat × Value)} {st : List Value}
theorem g_aastN {a j : Nat} {on : Option Nat} {i : Int32} (C : Cx X own cc nL rt D mc ms) (hd : decode cc pc = .ok (.aastore, 1)) (hk : kd a = .inr (4, on)) (ha : a < 110 ∨ a < sz h) (hj : inb i (alen h a on) = some j) (next : G X (sO h a j none) k n (pc + 1) lv st) : G X h k n pc lv (.null :: .int i :: .ref a :: st) := by
  obtain ⟨p, l, e, R, s, m, args, below, meth, c, Q, E⟩ := X
  obtain ⟨hx, hb, hml, hown, hts, hO, hlk, hrt, hfr, hlo, hce, hsl, hbs, -⟩ := C
  intro H locs ls hR hS hl
  have ha := sz_of hR ha
  have hq := ws_at (E := E) ha
  rw [cE_r hk (by omega)] at hq
  rw [List.map_cons, List.map_cons, List.map_cons, cv_ref hR ha]
  obtain ⟨hin, hj2⟩ := inb_vp hj
  subst hj2
  refine va_WaastN (C := "SteamNations$Text") hx hb (hR.2.2.2 a _ hq) ((hO.1.2 4 _ rfl).1 _ (fun j => va_rf ((aO h a j).map (ra E)))) (fun q => by cases q) (by show ¬ (i < 0 ∨ (arrV _ _ _).slots.size ≤ _); rw [arrV_size]; exact hin) rfl rfl hd fun H1 e1 z oq => ?_
  refine next H1 _ ls (Rl_put hR ha rfl z cE_sO oq ?_) (hS.put z oq (Nat.le_add_right _ _)) hl
  rw [cE_r hk (by omega), aO_sO]
  show H1[E.2.2.1 + a]? = some (vp_cell _ _)
  rw [e1, vp_cell_q, vp_cell_q, arrV_store]
  congr 2
  funext q
  by_cases hq : q = i.toNatClampNeg
  · subst hq; simp [updV, va_up, va_rf]
  · simp [updV, va_up, hq]
theorem g_aastT {a j v : Nat} {on : Option Nat} {fs : List (Option Nat)} {i : Int32} (C : Cx X own cc nL rt D mc ms) (hd : decode cc pc = .ok (.aastore, 1)) (hk : kd a = .inr (4, on)) (ha : a < 110 ∨ a < sz h) (hj : inb i (alen h a on) = some j) (hkv : kd v = .inl (9, fs)) (hv : v < 110 ∨ v < sz h) (next : G X (sO h a j (some v)) k n (pc + 1) lv st) : G X h k n pc lv (.ref v :: .int i :: .ref a :: st) := by
  obtain ⟨p, l, e, R, s, m, args, below, meth, c, Q, E⟩ := X
  obtain ⟨hx, hb, hml, hown, hts, hO, hlk, hrt, hfr, hlo, hce, hsl, hbs, -⟩ := C
  intro H locs ls hR hS hl
  have ha := sz_of hR ha
  have hv := sz_of hR hv
  have hq := ws_at (E := E) ha
  have hqv := ws_at (E := E) hv
  rw [cE_r hk (by omega)] at hq
  rw [cE_o hkv] at hqv
  rw [List.map_cons, List.map_cons, List.map_cons, cv_ref hR ha, cv_ref hR hv]
  obtain ⟨hin, hj2⟩ := inb_vp hj
  subst hj2
  have hlt : i.toNatClampNeg < on.getD (ln h a) := Nat.not_le.mp fun q => hin (Or.inr q)
  have h0 : ¬ i < 0 := fun q => hin (Or.inl q)
  obtain ⟨r', hr', cellV, g1, g2, g3, -⟩ := hR.2.2.2 v _ hqv
  have hcls := (hO.1.1 9 _ rfl).2
  obtain ⟨kA, comp, k1, k2, k3, -⟩ := (hO.1.2 4 _ rfl).2
  have hcomp : comp = E.1.1 9 := Option.some.inj (k3.symm.trans hcls.1)
  subst hcomp
  obtain ⟨kC, hkC, -⟩ := hcls.2
  refine W.aast hx hb (hR.2.2.2 a _ hq) (fun q h => by cases h) (fun h => by cases h) k1 k2 rfl hkC ⟨h0, by show _ < (arrV _ _ _).slots.size; rw [arrV_size]; exact hlt⟩ g1 (fun q h => by rw [g3] at h; cases h) (by rw [g2]; exact hkC) (by rw [g2]; exact va_assign hcls) rfl rfl hd fun H1 e1 z oq => ?_
  refine next H1 _ ls (Rl_put hR ha rfl z cE_sO oq ?_) (hS.put z oq (Nat.le_add_right _ _)) hl
  rw [cE_r hk (by omega), aO_sO]
  show H1[E.2.2.1 + a]? = some (vp_cell _ _)
  rw [e1, vp_cell_q, vp_cell_q, arrV_store]
  congr 2
  funext q
  by_cases hq : q = i.toNatClampNeg
  · subst hq; simp [updV, va_up, va_rf, ra_lt hv hR.2.2.1]
  · simp [updV, va_up, hq]
/-! statics: abstract addresses from 1000000 on -/
theorem g_gsB (C : Cx X "SteamNations$Steam" cc nL rt D mc ms) (hd : decode cc pc = .ok (.getstatic 96, 3)) (next : G X h k n (pc + 3) lv (.ref 1000000 :: st)) : G X h k n pc lv st := by
  obtain ⟨p, l, e, R, s, m, args, below, meth, c, Q, E⟩ := X
  obtain ⟨hx, hb, hml, hown, hts, hO, hlk, hrt, hfr, hlo, hce, hsl, hbs, -⟩ := C
  intro H locs ls hR hS hl
  exact va_getsN hx hb hO.2.2.2.1 hS hown (va_Nw.use rfl (hO.2.1 ("SteamNations$Steam", 96, "SteamNations", "BESIDE", "[I", "SteamNations") (by decide))) (fun _ h => h) hd (next H locs ls hR hS hl)
theorem g_gsM {idx : Nat} (C : Cx X "SteamNations" cc nL rt D mc ms) (hd : decode cc pc = .ok (.getstatic idx, 3)) (hc : Cond.fieldLink "SteamNations" idx "SteamNations" "MOST_OF_TERM" "[I" ∈ gw) (next : G X h k n (pc + 3) lv (.ref 1000001 :: st)) : G X h k n pc lv st := by
  obtain ⟨p, l, e, R, s, m, args, below, meth, c, Q, E⟩ := X
  obtain ⟨hx, hb, hml, hown, hts, hO, hlk, hrt, hfr, hlo, hce, hsl, hbs, -⟩ := C
  intro H locs ls hR hS hl
  exact va_gets hx hb hO.2.2.2.2.2.1 hS hown (hts _ hc) (fun _ h => h) hd (next H locs ls hR hS hl)
theorem g_tldB {i : Int32} {j : Nat} (C : Cx X own cc nL rt D mc ms) (hd : decode cc pc = .ok (.iaload, 1)) (hj : inb i 36 = some j) (next : G X h k n (pc + 1) lv (.int (bsT.getD j 0) :: st)) : G X h k n pc lv (.int i :: .ref 1000000 :: st) := by
  obtain ⟨p, l, e, R, s, m, args, below, meth, c, Q, E⟩ := X
  obtain ⟨hx, hb, hml, hown, hts, hO, hlk, hrt, hfr, hlo, hce, hsl, hbs, -⟩ := C
  intro H locs ls hR hS hl
  obtain ⟨hin, hj2⟩ := inb_vp hj
  subst hj2
  exact va_ti hx hb hO.2.2.2.2.1 hS hin rfl hd (next H locs ls hR hS hl)
theorem g_tldM {i : Int32} {j : Nat} (C : Cx X own cc nL rt D mc ms) (hd : decode cc pc = .ok (.iaload, 1)) (hj : inb i 3 = some j) (next : G X h k n (pc + 1) lv (.int (moT.getD j 0) :: st)) : G X h k n pc lv (.int i :: .ref 1000001 :: st) := by
  obtain ⟨p, l, e, R, s, m, args, below, meth, c, Q, E⟩ := X
  obtain ⟨hx, hb, hml, hown, hts, hO, hlk, hrt, hfr, hlo, hce, hsl, hbs, -⟩ := C
  intro H locs ls hR hS hl
  obtain ⟨hin, hj2⟩ := inb_vp hj
  subst hj2
  exact va_ti hx hb hO.2.2.2.2.2.2.1 hS hin rfl hd (next H locs ls hR hS hl)
/-! calls -/
theorem gw_good {w : Cond} (h : w ∈ gw) : goodWord w = true := (List.mem_filter.mp h).2
theorem gw_in (y : MethodName) {bytes : ByteArray} {mL : Nat} {ret : Option FieldType} (hc : Cond.code y bytes mL ret ∈ gw) : GoodIn gw (.code y bytes mL ret :: gw) := by
  intro w hw
  rcases List.mem_cons.mp hw with rfl | hw
  · exact ⟨hc, good_of_word (gw_good hc)⟩
  · exact ⟨hw, good_of_word (gw_good hw)⟩
/-- behind a call -/
theorem g_run {p : Program} {l : Launch} {e : Env} {R : Room} {s : State} {m : MethodId} {args : Array Value} {below : List Frame} {meth : Method} {c : Code} {Q : State → Prop} {E : Ex} {H : Heap} {locs : List Loc} {mc' ms' : Nat} {ls : Array Slot} {st0 rest : List Value} {aa : Array Value} {r : Option Value} {h1 : Hp}
    (hr : va_Run p l e R s m args below meth c H locs k n mc' ms' (F0 m pc ls st0) (rest.map (cv E)) (rQ E r h1 aa) (eA E)) (hS : va_S (eA E) s.heap H locs) (hl : lv_has ls c.maxLocals (cl2 E lv))
    (next : G (p, l, e, R, s, m, args, below, meth, c, Q, E) h1 (k + mc') (n + ms') (pc + 3) lv (r.toList ++ rest)) : W p l e R s m args below meth c H locs k n Q (F0 m pc ls st0) := by
  intro T hT X0
  obtain ⟨v, st₀, t, T', L, h0, X', hL, e1, e2, ⟨hv, hR1, hz, hk⟩, stp⟩ := hr T hT X0
  have hv : v = r.map (cv E) := by cases hv; rfl
  subst hv
  rw [h0] at hz hk
  have hS1 : va_S (eA E) s.heap T'.heap (locs ++ L) := by
    refine ⟨Nat.le_trans hS.1 (by rw [e1]; exact hz), fun q g1 g2 => ?_, fun q hq => ?_⟩
    · rw [e1, hk q (Nat.lt_of_lt_of_le g1 hS.1) g2]
      exact hS.2.1 q g1 g2
    · rcases List.mem_append.mp hq with h | h
      · exact hS.2.2 q h
      · exact hL q h
  obtain ⟨t2, a1, b1⟩ := next T'.heap (locs ++ L) ls (by rw [e1]; exact hR1) hS1 hl T' rfl X'
  have e3 : (r.toList ++ rest).map (cv E) = (r.map (cv E)).toList ++ rest.map (cv E) := by cases r <;> rfl
  rw [e3] at a1
  exact ⟨t2, stp t2 a1, b1⟩
def VLk (own : String) (idx : Nat) (y : MethodName) (bytes : ByteArray) (mL : Nat) (ret : Option FieldType) (ci nA : Nat) : Prop :=
  (cls[ci]?).map (·.1) = some y.cls ∧ Cond.methodLink own idx y ∈ gw ∧ Cond.instanceMethod y ∈ gw ∧ Cond.selects y.cls y y ∈ gw ∧ Cond.initialized y.cls ∈ gw ∧ Cond.code y bytes mL ret ∈ gw ∧ (y.cls ≠ "java/lang/invoke/MethodHandle" ∧ y.cls ≠ "java/lang/invoke/VarHandle" ∧ (parseMethodDescriptor y.desc).map (fun d => d.parameters.length) = some nA) ∧ mL ≤ 40
def SLk (own : String) (idx : Nat) (y : MethodName) (bytes : ByteArray) (mL : Nat) (ret : Option FieldType) (nA : Nat) : Prop :=
  Cond.methodLink own idx y ∈ gw ∧ Cond.static y ∈ gw ∧ Cond.initialized y.cls ∈ gw ∧ Cond.code y bytes mL ret ∈ gw ∧ (y.cls ≠ "java/lang/invoke/MethodHandle" ∧ y.cls ≠ "java/lang/invoke/VarHandle" ∧ (parseMethodDescriptor y.desc).map (fun d => d.parameters.length) = some nA) ∧ mL ≤ 40
def NLk (own : String) (idx : Nat) (y : MethodName) (bytes : ByteArray) (mL : Nat) (ret : Option FieldType) (nA : Nat) : Prop :=
  (own, idx, y, "SteamNations") ∈ nwM ∧ Cond.static y ∈ gw ∧ Cond.initialized y.cls ∈ gw ∧ Cond.code y bytes mL ret ∈ gw ∧ (y.cls ≠ "java/lang/invoke/MethodHandle" ∧ y.cls ≠ "java/lang/invoke/VarHandle" ∧ (parseMethodDescriptor y.desc).map (fun d => d.parameters.length) = some nA) ∧ mL ≤ 40
theorem aPc_at {E : Ex} {s U : State} {H : Heap} {locs : List Loc} {av : List Value} (hR : Rl E h H) (hO : Ok E s) (hS : va_S (eA E) s.heap H locs) (hbs : E.2.2.1 ≤ s.heap.size) (hU : U.heap = H) (hW : s.WarmedH U.vm) : aPc E av h (av.map (cv E)).toArray U := by
  refine ⟨rfl, by rw [hU]; exact hR, hO.mv hW (fun a g1 g2 => by rw [hU]; exact hS.2.1 a g1 g2), by rw [hU]; exact Nat.le_trans hbs hS.1⟩
theorem g_callV {y : MethodName} {bytes : ByteArray} {mL ci nA D' mc' ms' idx a : Nat} {ret : Option FieldType} {fs : List (Option Nat)} {As rest : List Value} {r : Option Value} {h1 : Hp} (C : Cx X own cc nL rt D mc ms) (hd : decode cc pc = .ok (.invokevirtual idx, 3)) (L : VLk own idx y bytes mL ret ci nA) (hm : MetA y bytes mL ret D' mc' ms' (.ref a :: As) h r h1) (hk : kd a = .inl (ci, fs)) (ha : a < 110 ∨ a < sz h) (hst : st = As.reverse ++ .ref a :: rest) (hn : As.length = nA) (hcat : (rest.map fun v => v.category).sum ≤ 8) (hD : D' + 1 ≤ D) (hc : k + mc' ≤ mc ∧ n + ms' ≤ ms) (next : G X h1 (k + mc') (n + ms') (pc + 3) lv (r.toList ++ rest)) : G X h k n pc lv st := by
  obtain ⟨p, l, e, R, s, m, args, below, meth, c, Q, E⟩ := X
  obtain ⟨hx, hb, hml, hown, hts, hO, hlk, hrt, hfr, hlo, hce, hsl, hbs, -⟩ := C
  obtain ⟨l1, l2, l3, l4, l5, l6, l7, l8⟩ := L
  intro H locs ls hR hS hl
  have ha := sz_of hR ha
  have hq := ws_at (E := E) ha
  rw [cE_o hk] at hq
  obtain ⟨q, hq1⟩ : ∃ q, cls[ci]? = some q := by
    cases hq2 : cls[ci]? with
    | none => rw [hq2] at l1; cases l1
    | some q => exact ⟨q, rfl⟩
  have hqc : q.1 = y.cls := by rw [hq1] at l1; exact Option.some.inj l1
  have hcat2 : ((rest.map (cv E)).map fun v => v.category).sum ≤ 8 := by
    rw [List.map_map]
    have e9 : ((fun v : Value => v.category) ∘ cv E) = fun v : Value => v.category := by funext v; exact cv_cat E v
    rw [e9]
    exact hcat
  have hrecv := va_recv hO.1 hR.2.2.2 hq1 hq
  rw [hqc] at hrecv
  have hrun := va_runV (p := p) (e := e) (below := below) (meth := meth) (locs := locs) (cells := k) (slots := n) (As := As.map (cv E)) (rest := rest.map (cv E)) (b := E.2.2.1 + a) (g := F0 m pc ls (st.map (cv E))) (index := idx) (C := y.cls) ⟨hx, hb, rfl, hown, hts⟩ (hm l E)
    (R := R) ⟨callB_of nA hts (gw_in y l6) rfl rfl rfl (hts _ l5) (hts _ l2) l7 ⟨by show D' + 1 ≤ _; omega, by show 8 + (mL + 11) + 60 * D' ≤ _; omega⟩, hts _ l3, hts _ l4⟩
    (H := H) ⟨aPc_blind E _ h, hrecv, fun U hU hW => by
      have e8 : (Value.ref (E.2.2.1 + a) :: As.map (cv E)).toArray = ((Value.ref a :: As).map (cv E)).toArray := by rw [List.map_cons, cv_ref hR ha]
      rw [e8]
      exact aPc_at hR hO hS hbs hU hW⟩
    rfl (by rw [List.length_map]; exact hn) hl.1 (by rw [hst]; simp [cv_ref hR ha]) (lv_room hcat2) hd ⟨by omega, by omega⟩
  exact g_run hrun hS hl next
theorem g_callS {y : MethodName} {bytes : ByteArray} {mL nA D' mc' ms' idx : Nat} {ret : Option FieldType} {As rest : List Value} {r : Option Value} {h1 : Hp} (C : Cx X own cc nL rt D mc ms) (hd : decode cc pc = .ok (.invokestatic idx, 3)) (L : SLk own idx y bytes mL ret nA) (hm : MetA y bytes mL ret D' mc' ms' As h r h1) (hst : st = As.reverse ++ rest) (hn : As.length = nA) (hcat : (rest.map fun v => v.category).sum ≤ 8) (hD : D' + 1 ≤ D) (hc : k + mc' ≤ mc ∧ n + ms' ≤ ms) (next : G X h1 (k + mc') (n + ms') (pc + 3) lv (r.toList ++ rest)) : G X h k n pc lv st := by
  obtain ⟨p, l, e, R, s, m, args, below, meth, c, Q, E⟩ := X
  obtain ⟨hx, hb, hml, hown, hts, hO, hlk, hrt, hfr, hlo, hce, hsl, hbs, -⟩ := C
  obtain ⟨l2, l3, l5, l6, l7, l8⟩ := L
  intro H locs ls hR hS hl
  have hcat2 : ((rest.map (cv E)).map fun v => v.category).sum ≤ 8 := by
    rw [List.map_map]
    have e9 : ((fun v : Value => v.category) ∘ cv E) = fun v : Value => v.category := by funext v; exact cv_cat E v
    rw [e9]
    exact hcat
  have hrun := va_runS (p := p) (e := e) (below := below) (meth := meth) (locs := locs) (cells := k) (slots := n) (As := As.map (cv E)) (rest := rest.map (cv E)) (g := F0 m pc ls (st.map (cv E))) (index := idx) ⟨hx, hb, rfl, hown, hts⟩ (hm l E)
    (R := R) ⟨callB_of nA hts (gw_in y l6) rfl rfl rfl (hts _ l5) (hts _ l2) l7 ⟨by show D' + 1 ≤ _; omega, by show 8 + (mL + 11) + 60 * D' ≤ _; omega⟩, hts _ l3⟩
    (H := H) ⟨aPc_blind E _ h, fun U hU hW => aPc_at hR hO hS hbs hU hW⟩
    rfl (by rw [List.length_map]; exact hn) hl.1 (by rw [hst]; simp) (lv_room hcat2) hd ⟨by omega, by omega⟩
  exact g_run hrun hS hl next
theorem g_callN {y : MethodName} {bytes : ByteArray} {mL nA D' mc' ms' idx : Nat} {ret : Option FieldType} {As rest : List Value} {r : Option Value} {h1 : Hp} (C : Cx X own cc nL rt D mc ms) (hd : decode cc pc = .ok (.invokestatic idx, 3)) (L : NLk own idx y bytes mL ret nA) (hm : MetA y bytes mL ret D' mc' ms' As h r h1) (hst : st = As.reverse ++ rest) (hn : As.length = nA) (hcat : (rest.map fun v => v.category).sum ≤ 8) (hD : D' + 1 ≤ D) (hc : k + mc' ≤ mc ∧ n + ms' ≤ ms) (next : G X h1 (k + mc') (n + ms') (pc + 3) lv (r.toList ++ rest)) : G X h k n pc lv st := by
  obtain ⟨p, l, e, R, s, m, args, below, meth, c, Q, E⟩ := X
  obtain ⟨hx, hb, hml, hown, hts, hO, hlk, hrt, hfr, hlo, hce, hsl, hbs, -⟩ := C
  obtain ⟨l2, l3, l5, l6, l7, l8⟩ := L
  intro H locs ls hR hS hl
  have hcat2 : ((rest.map (cv E)).map fun v => v.category).sum ≤ 8 := by
    rw [List.map_map]
    have e9 : ((fun v : Value => v.category) ∘ cv E) = fun v : Value => v.category := by funext v; exact cv_cat E v
    rw [e9]
    exact hcat
  have hrun := va_runSN (p := p) (e := e) (below := below) (meth := meth) (locs := locs) (cells := k) (slots := n) (As := As.map (cv E)) (rest := rest.map (cv E)) (g := F0 m pc ls (st.map (cv E))) (index := idx) ⟨hx, hb, rfl, hown, hts⟩ (hm l E)
    (R := R) ⟨va_cnB nA hts (gw_in y l6) rfl rfl rfl (hO.2.2.1 _ l2) (hts _ l5) l7 ⟨by show D' + 1 ≤ _; omega, by show 8 + (mL + 11) + 60 * D' ≤ _; omega⟩, hts _ l3, trivial⟩
    (H := H) ⟨aPc_blind E _ h, fun U hU hW => aPc_at hR hO hS hbs hU hW⟩
    rfl (by rw [List.length_map]; exact hn) hl.1 (by rw [hst]; simp) (lv_room hcat2) hd ⟨by omega, by omega⟩
  exact g_run hrun hS hl next
end GC
end
section
theorem gm_1 {w : Cond} (i : Nat) (h : tables_1_1[i]? = some w) (hg : goodWord w = true) : w ∈ gw := by
  have h1 : w ∈ tables_1_1 := List.mem_of_getElem? h
  refine List.mem_filter.mpr ⟨List.mem_append_right _ ?_, hg⟩
  show w ∈ tables_1
  unfold tables_1
  simp only [List.mem_append]
  simp only [h1, true_or, or_true]
theorem gm_2 {w : Cond} (i : Nat) (h : tables_1_2[i]? = some w) (hg : goodWord w = true) : w ∈ gw := by
  have h1 : w ∈ tables_1_2 := List.mem_of_getElem? h
  refine List.mem_filter.mpr ⟨List.mem_append_right _ ?_, hg⟩
  show w ∈ tables_1
  unfold tables_1
  simp only [List.mem_append]
  simp only [h1, true_or, or_true]
theorem gm_3 {w : Cond} (i : Nat) (h : tables_1_3[i]? = some w) (hg : goodWord w = true) : w ∈ gw := by
  have h1 : w ∈ tables_1_3 := List.mem_of_getElem? h
  refine List.mem_filter.mpr ⟨List.mem_append_right _ ?_, hg⟩
  show w ∈ tables_1
  unfold tables_1
  simp only [List.mem_append]
  simp only [h1, true_or, or_true]
theorem gm_4 {w : Cond} (i : Nat) (h : tables_1_4[i]? = some w) (hg : goodWord w = true) : w ∈ gw := by
  have h1 : w ∈ tables_1_4 := List.mem_of_getElem? h
  refine List.mem_filter.mpr ⟨List.mem_append_right _ ?_, hg⟩
  show w ∈ tables_1
  unfold tables_1
  simp only [List.mem_append]
  simp only [h1, true_or, or_true]
theorem gm_5 {w : Cond} (i : Nat) (h : tables_1_5[i]? = some w) (hg : goodWord w = true) : w ∈ gw := by
  have h1 : w ∈ tables_1_5 := List.mem_of_getElem? h
  refine List.mem_filter.mpr ⟨List.mem_append_right _ ?_, hg⟩
  show w ∈ tables_1
  unfold tables_1
  simp only [List.mem_append]
  simp only [h1, true_or, or_true]
theorem gm_6 {w : Cond} (i : Nat) (h : tables_1_6[i]? = some w) (hg : goodWord w = true) : w ∈ gw := by
  have h1 : w ∈ tables_1_6 := List.mem_of_getElem? h
  refine List.mem_filter.mpr ⟨List.mem_append_right _ ?_, hg⟩
  show w ∈ tables_1
  unfold tables_1
  simp only [List.mem_append]
  simp only [h1, true_or, or_true]
theorem gm_7 {w : Cond} (i : Nat) (h : tables_1_7[i]? = some w) (hg : goodWord w = true) : w ∈ gw := by
  have h1 : w ∈ tables_1_7 := List.mem_of_getElem? h
  refine List.mem_filter.mpr ⟨List.mem_append_right _ ?_, hg⟩
  show w ∈ tables_1
  unfold tables_1
  simp only [List.mem_append]
  simp only [h1, true_or, or_true]
theorem gm_8 {w : Cond} (i : Nat) (h : tables_1_8[i]? = some w) (hg : goodWord w = true) : w ∈ gw := by
  have h1 : w ∈ tables_1_8 := List.mem_of_getElem? h
  refine List.mem_filter.mpr ⟨List.mem_append_right _ ?_, hg⟩
  show w ∈ tables_1
  unfold tables_1
  simp only [List.mem_append]
  simp only [h1, true_or, or_true]
def IsRoom (r : Nat) : Prop := kd r = .inl (6, [none, some (r + 1), some (r + 2), some (r + 3), some (r + 4)]) ∧ kd (r + 1) = .inr (0, some 18) ∧ kd (r + 2) = .inr (0, some 6) ∧ kd (r + 3) = .inr (0, some 6) ∧ kd (r + 4) = .inr (0, some 3) ∧ r + 4 < 110
theorem rb0 {r : Nat} (H : IsRoom r) {Z : Prop} : r < 110 ∨ Z := Or.inl (by have := H.2.2.2.2.2; omega)
theorem rb1 {r : Nat} (H : IsRoom r) {Z : Prop} : r + 1 < 110 ∨ Z := Or.inl (by have := H.2.2.2.2.2; omega)
theorem rb2 {r : Nat} (H : IsRoom r) {Z : Prop} : r + 2 < 110 ∨ Z := Or.inl (by have := H.2.2.2.2.2; omega)
theorem rb3 {r : Nat} (H : IsRoom r) {Z : Prop} : r + 3 < 110 ∨ Z := Or.inl (by have := H.2.2.2.2.2; omega)
theorem rb4 {r : Nat} (H : IsRoom r) {Z : Prop} : r + 4 < 110 ∨ Z := Or.inl (by have := H.2.2.2.2.2; omega)
def IsHouse (o : Nat) : Prop := kd o = .inl (1, [some (o + 1), some 26, some (o + 6), none, none, some (o + 7), none]) ∧ IsRoom (o + 1) ∧ kd (o + 6) = .inr (4, some 6) ∧ kd (o + 7) = .inr (0, some 18) ∧ o + 7 < 110
theorem hb0 {r : Nat} (H : IsHouse r) {Z : Prop} : r < 110 ∨ Z := Or.inl (by have := H.2.2.2.2; omega)
theorem hb6 {r : Nat} (H : IsHouse r) {Z : Prop} : r + 6 < 110 ∨ Z := Or.inl (by have := H.2.2.2.2; omega)
theorem hb7 {r : Nat} (H : IsHouse r) {Z : Prop} : r + 7 < 110 ∨ Z := Or.inl (by have := H.2.2.2.2; omega)
def IsPast (q : Nat) : Prop := kd q = .inl (4, [some (q + 1), none, none]) ∧ kd (q + 1) = .inr (0, some 416) ∧ q + 1 < 110
theorem pb0 {r : Nat} (H : IsPast r) {Z : Prop} : r < 110 ∨ Z := Or.inl (by have := H.2.2; omega)
theorem pb1 {r : Nat} (H : IsPast r) {Z : Prop} : r + 1 < 110 ∨ Z := Or.inl (by have := H.2.2; omega)
def tg (h : Hp) (t : Nat) : Bool := (decide (t = 26) || (decide (110 ≤ t) && decide ((t - 110) % 3 = 0))) && decide (t + 2 < sz h)
theorem tg_spec {h : Hp} {t : Nat} (hg : tg h t = true) : kd t = .inl (9, [some (t + 1), some (t + 2), none, none]) ∧ kd (t + 1) = .inr (0, none) ∧ kd (t + 2) = .inr (0, none) ∧ t + 2 < sz h := by
  simp only [tg, Bool.and_eq_true, Bool.or_eq_true, decide_eq_true_eq] at hg
  obtain ⟨h1, h2⟩ := hg
  refine ⟨?_, ?_, ?_, h2⟩
  · rcases h1 with rfl | ⟨h3, h4⟩
    · rfl
    · unfold kd; rw [if_neg (by omega), if_pos h4]
  · rcases h1 with rfl | ⟨h3, h4⟩
    · rfl
    · unfold kd; rw [if_neg (by omega), if_neg (by omega)]
  · rcases h1 with rfl | ⟨h3, h4⟩
    · rfl
    · unfold kd; rw [if_neg (by omega), if_neg (by omega)]
theorem tb0 {h : Hp} {t : Nat} (hg : tg h t = true) : t < 110 ∨ t < sz h := Or.inr (by have := (tg_spec hg).2.2.2; omega)
theorem tb1 {h : Hp} {t : Nat} (hg : tg h t = true) : t + 1 < 110 ∨ t + 1 < sz h := Or.inr (by have := (tg_spec hg).2.2.2; omega)
theorem tb2 {h : Hp} {t : Nat} (hg : tg h t = true) : t + 2 < 110 ∨ t + 2 < sz h := Or.inr (by have := (tg_spec hg).2.2.2; omega)
theorem kd_0 : kd 0 = .inl (10, [some 32, some 1, some 2, some 3, some 4, some 56, some 10, some 59, some 60, some 68, some 12, some 17, some 22, some 23, some 24, some 25, none, none, none, none]) := rfl
theorem kd_1 : kd 1 = .inr (5, some 2) := rfl
theorem kd_2 : kd 2 = .inr (2, some 2) := rfl
theorem kd_3 : kd 3 = .inr (0, some 400) := rfl
theorem kd_4 : kd 4 = .inl (5, [some 5, some 6, some 7, some 8, some 9, none, none, none, none, none, none]) := rfl
theorem kd_5 : kd 5 = .inr (0, some 401) := rfl
theorem kd_6 : kd 6 = .inr (0, some 401) := rfl
theorem kd_7 : kd 7 = .inr (0, some 401) := rfl
theorem kd_8 : kd 8 = .inr (0, some 800) := rfl
theorem kd_9 : kd 9 = .inr (0, some 72) := rfl
theorem kd_10 : kd 10 = .inl (4, [some 11, none, none]) := rfl
theorem kd_11 : kd 11 = .inr (0, some 416) := rfl
theorem kd_12 : kd 12 = .inl (6, [none, some 13, some 14, some 15, some 16]) := rfl
theorem kd_13 : kd 13 = .inr (0, some 18) := rfl
theorem kd_14 : kd 14 = .inr (0, some 6) := rfl
theorem kd_15 : kd 15 = .inr (0, some 6) := rfl
theorem kd_16 : kd 16 = .inr (0, some 3) := rfl
theorem kd_17 : kd 17 = .inl (6, [none, some 18, some 19, some 20, some 21]) := rfl
theorem kd_18 : kd 18 = .inr (0, some 18) := rfl
theorem kd_19 : kd 19 = .inr (0, some 6) := rfl
theorem kd_20 : kd 20 = .inr (0, some 6) := rfl
theorem kd_21 : kd 21 = .inr (0, some 3) := rfl
theorem kd_22 : kd 22 = .inr (0, some 9) := rfl
theorem kd_23 : kd 23 = .inr (0, some 9) := rfl
theorem kd_24 : kd 24 = .inr (3, some 20) := rfl
theorem kd_25 : kd 25 = .inr (0, some 7) := rfl
theorem kd_26 : kd 26 = .inl (9, [some 27, some 28, none, none]) := rfl
theorem kd_27 : kd 27 = .inr (0, none) := rfl
theorem kd_28 : kd 28 = .inr (0, none) := rfl
theorem kd_29 : kd 29 = .inl (2, [some 30, some 31]) := rfl
theorem kd_30 : kd 30 = .inr (0, some 24) := rfl
theorem kd_31 : kd 31 = .inr (0, some 64) := rfl
theorem kd_32 : kd 32 = .inl (1, [some 33, some 26, some 38, none, none, some 39, none]) := rfl
theorem kd_33 : kd 33 = .inl (6, [none, some 34, some 35, some 36, some 37]) := rfl
theorem kd_34 : kd 34 = .inr (0, some 18) := rfl
theorem kd_35 : kd 35 = .inr (0, some 6) := rfl
theorem kd_36 : kd 36 = .inr (0, some 6) := rfl
theorem kd_37 : kd 37 = .inr (0, some 3) := rfl
theorem kd_38 : kd 38 = .inr (4, some 6) := rfl
theorem kd_39 : kd 39 = .inr (0, some 18) := rfl
theorem kd_40 : kd 40 = .inl (1, [some 41, some 26, some 46, none, none, some 47, none]) := rfl
theorem kd_41 : kd 41 = .inl (6, [none, some 42, some 43, some 44, some 45]) := rfl
theorem kd_42 : kd 42 = .inr (0, some 18) := rfl
theorem kd_43 : kd 43 = .inr (0, some 6) := rfl
theorem kd_44 : kd 44 = .inr (0, some 6) := rfl
theorem kd_45 : kd 45 = .inr (0, some 3) := rfl
theorem kd_46 : kd 46 = .inr (4, some 6) := rfl
theorem kd_47 : kd 47 = .inr (0, some 18) := rfl
theorem kd_48 : kd 48 = .inl (1, [some 49, some 26, some 54, none, none, some 55, none]) := rfl
theorem kd_49 : kd 49 = .inl (6, [none, some 50, some 51, some 52, some 53]) := rfl
theorem kd_50 : kd 50 = .inr (0, some 18) := rfl
theorem kd_51 : kd 51 = .inr (0, some 6) := rfl
theorem kd_52 : kd 52 = .inr (0, some 6) := rfl
theorem kd_53 : kd 53 = .inr (0, some 3) := rfl
theorem kd_54 : kd 54 = .inr (4, some 6) := rfl
theorem kd_55 : kd 55 = .inr (0, some 18) := rfl
theorem kd_56 : kd 56 = .inl (8, [some 29, some 57, some 58]) := rfl
theorem kd_57 : kd 57 = .inr (0, some 18) := rfl
theorem kd_58 : kd 58 = .inr (0, some 9) := rfl
theorem kd_59 : kd 59 = .inl (3, [some 32, some 10, some 56]) := rfl
theorem kd_60 : kd 60 = .inl (0, [some 59, some 29, some 61, some 66, none, none, none]) := rfl
theorem kd_61 : kd 61 = .inl (6, [none, some 62, some 63, some 64, some 65]) := rfl
theorem kd_62 : kd 62 = .inr (0, some 18) := rfl
theorem kd_63 : kd 63 = .inr (0, some 6) := rfl
theorem kd_64 : kd 64 = .inr (0, some 6) := rfl
theorem kd_65 : kd 65 = .inr (0, some 3) := rfl
theorem kd_66 : kd 66 = .inl (4, [some 67, none, none]) := rfl
theorem kd_67 : kd 67 = .inr (0, some 416) := rfl
theorem kd_68 : kd 68 = .inl (7, [some 56, some 69, some 74, some 75, some 76, some 77, some 78, some 79, some 80, none, none, none]) := rfl
theorem kd_69 : kd 69 = .inl (6, [none, some 70, some 71, some 72, some 73]) := rfl
theorem kd_70 : kd 70 = .inr (0, some 18) := rfl
theorem kd_71 : kd 71 = .inr (0, some 6) := rfl
theorem kd_72 : kd 72 = .inr (0, some 6) := rfl
theorem kd_73 : kd 73 = .inr (0, some 3) := rfl
theorem kd_74 : kd 74 = .inr (0, some 720) := rfl
theorem kd_75 : kd 75 = .inr (0, some 7200) := rfl
theorem kd_76 : kd 76 = .inr (0, some 720) := rfl
theorem kd_77 : kd 77 = .inr (0, some 720) := rfl
theorem kd_78 : kd 78 = .inr (0, some 6) := rfl
theorem kd_79 : kd 79 = .inr (0, some 6) := rfl
theorem kd_80 : kd 80 = .inr (0, some 3) := rfl
theorem kd_81 : kd 81 = .inl (11, [none, some 82, some 83, some 84, some 85, some 86, none, some 87, none, none, none, some 88, some 89, none, none, some 90, some 91, some 92, none, none, none, none, none, none, none, none, some 93, none, none, some 94, some 95, some 96, none, some 97, some 98, none, none, some 99, some 100, some 101, some 102, some 103, some 104, some 105, some 106, some 107, none, none, none, none, none, none, some 108, some 109, none, none]) := rfl
theorem kd_82 : kd 82 = .inr (0, some 7) := rfl
theorem kd_83 : kd 83 = .inr (0, some 5662) := rfl
theorem kd_84 : kd 84 = .inr (0, some 11324) := rfl
theorem kd_85 : kd 85 = .inr (2, some 2) := rfl
theorem kd_86 : kd 86 = .inr (0, some 50) := rfl
theorem kd_87 : kd 87 = .inr (1, some 144) := rfl
theorem kd_88 : kd 88 = .inr (1, some 400) := rfl
theorem kd_89 : kd 89 = .inr (0, some 5) := rfl
theorem kd_90 : kd 90 = .inr (0, some 401) := rfl
theorem kd_91 : kd 91 = .inr (0, some 401) := rfl
theorem kd_92 : kd 92 = .inr (0, some 401) := rfl
theorem kd_93 : kd 93 = .inr (0, some 8) := rfl
theorem kd_94 : kd 94 = .inr (0, some 18) := rfl
theorem kd_95 : kd 95 = .inr (0, some 416) := rfl
theorem kd_96 : kd 96 = .inr (0, some 416) := rfl
theorem kd_97 : kd 97 = .inr (0, some 6) := rfl
theorem kd_98 : kd 98 = .inr (0, some 6) := rfl
theorem kd_99 : kd 99 = .inr (0, some 720) := rfl
theorem kd_100 : kd 100 = .inr (0, some 720) := rfl
theorem kd_101 : kd 101 = .inr (0, some 720) := rfl
theorem kd_102 : kd 102 = .inr (2, some 720) := rfl
theorem kd_103 : kd 103 = .inr (0, some 4320) := rfl
theorem kd_104 : kd 104 = .inr (0, some 3) := rfl
theorem kd_105 : kd 105 = .inr (0, some 6) := rfl
theorem kd_106 : kd 106 = .inr (0, some 6) := rfl
theorem kd_107 : kd 107 = .inr (3, some 21) := rfl
theorem kd_108 : kd 108 = .inr (3, some 2) := rfl
theorem kd_109 : kd 109 = .inr (0, some 25) := rfl
theorem past_10 : IsPast 10 := ⟨rfl, rfl, by decide⟩
theorem room_12 : IsRoom 12 := ⟨rfl, rfl, rfl, rfl, rfl, by decide⟩
theorem room_17 : IsRoom 17 := ⟨rfl, rfl, rfl, rfl, rfl, by decide⟩
theorem house_32 : IsHouse 32 := ⟨rfl, ⟨rfl, rfl, rfl, rfl, rfl, by decide⟩, rfl, rfl, by decide⟩
theorem room_33 : IsRoom 33 := ⟨rfl, rfl, rfl, rfl, rfl, by decide⟩
theorem house_40 : IsHouse 40 := ⟨rfl, ⟨rfl, rfl, rfl, rfl, rfl, by decide⟩, rfl, rfl, by decide⟩
theorem room_41 : IsRoom 41 := ⟨rfl, rfl, rfl, rfl, rfl, by decide⟩
theorem house_48 : IsHouse 48 := ⟨rfl, ⟨rfl, rfl, rfl, rfl, rfl, by decide⟩, rfl, rfl, by decide⟩
theorem room_49 : IsRoom 49 := ⟨rfl, rfl, rfl, rfl, rfl, by decide⟩
theorem room_61 : IsRoom 61 := ⟨rfl, rfl, rfl, rfl, rfl, by decide⟩
theorem past_66 : IsPast 66 := ⟨rfl, rfl, by decide⟩
theorem room_69 : IsRoom 69 := ⟨rfl, rfl, rfl, rfl, rfl, by decide⟩
theorem fl_10_11 : FLk cn_10 11 10 1 (.array (.object "SteamNations$House")) true := ⟨cn_10, ft_10, 20, fy_10, rfl, by decide, in_10, fo_10, nm_10, gm_2 86 rfl rfl, rfl, rfl⟩
theorem fl_10_15 : FLk cn_10 15 10 2 (.array .boolean) true := ⟨cn_10, ft_10, 20, fy_10, rfl, by decide, in_10, fo_10, nm_10, gm_2 87 rfl rfl, rfl, rfl⟩
theorem fl_10_19 : FLk cn_10 19 10 3 (.array .int) true := ⟨cn_10, ft_10, 20, fy_10, rfl, by decide, in_10, fo_10, nm_10, gm_2 88 rfl rfl, rfl, rfl⟩
theorem fl_10_26 : FLk cn_10 26 10 4 (.object "SteamNations$Reader") true := ⟨cn_10, ft_10, 20, fy_10, rfl, by decide, in_10, fo_10, nm_10, gm_2 89 rfl rfl, rfl, rfl⟩
theorem fl_10_33 : FLk cn_10 33 10 6 (.object "SteamNations$Past") true := ⟨cn_10, ft_10, 20, fy_10, rfl, by decide, in_10, fo_10, nm_10, gm_2 91 rfl rfl, rfl, rfl⟩
theorem fl_10_40 : FLk cn_10 40 10 10 (.object "SteamNations$Room") true := ⟨cn_10, ft_10, 20, fy_10, rfl, by decide, in_10, fo_10, nm_10, gm_2 95 rfl rfl, rfl, rfl⟩
theorem fl_10_44 : FLk cn_10 44 10 11 (.object "SteamNations$Room") true := ⟨cn_10, ft_10, 20, fy_10, rfl, by decide, in_10, fo_10, nm_10, gm_2 96 rfl rfl, rfl, rfl⟩
theorem fl_10_47 : FLk cn_10 47 10 12 (.array .int) true := ⟨cn_10, ft_10, 20, fy_10, rfl, by decide, in_10, fo_10, nm_10, gm_2 97 rfl rfl, rfl, rfl⟩
theorem fl_10_50 : FLk cn_10 50 10 13 (.array .int) true := ⟨cn_10, ft_10, 20, fy_10, rfl, by decide, in_10, fo_10, nm_10, gm_2 98 rfl rfl, rfl, rfl⟩
theorem fl_10_53 : FLk cn_10 53 10 14 (.array .long) true := ⟨cn_10, ft_10, 20, fy_10, rfl, by decide, in_10, fo_10, nm_10, gm_2 99 rfl rfl, rfl, rfl⟩
theorem fl_10_57 : FLk cn_10 57 10 15 (.array .int) true := ⟨cn_10, ft_10, 20, fy_10, rfl, by decide, in_10, fo_10, nm_10, gm_2 100 rfl rfl, rfl, rfl⟩
theorem fl_10_60 : FLk cn_10 60 10 17 (.int) false := ⟨cn_10, ft_10, 20, fy_10, rfl, by decide, in_10, fo_10, nm_10, gm_2 102 rfl rfl, rfl, rfl⟩
theorem fl_10_75 : FLk cn_10 75 10 0 (.object "SteamNations$House") true := ⟨cn_10, ft_10, 20, fy_10, rfl, by decide, in_10, fo_10, nm_10, gm_2 85 rfl rfl, rfl, rfl⟩
theorem fl_10_84 : FLk cn_10 84 10 5 (.object "SteamNations$Steam") true := ⟨cn_10, ft_10, 20, fy_10, rfl, by decide, in_10, fo_10, nm_10, gm_2 90 rfl rfl, rfl, rfl⟩
theorem fl_10_93 : FLk cn_10 93 10 7 (.object "SteamNations$Moves") true := ⟨cn_10, ft_10, 20, fy_10, rfl, by decide, in_10, fo_10, nm_10, gm_2 92 rfl rfl, rfl, rfl⟩
theorem fl_10_102 : FLk cn_10 102 10 8 (.object "SteamNations$Errands") true := ⟨cn_10, ft_10, 20, fy_10, rfl, by decide, in_10, fo_10, nm_10, gm_2 93 rfl rfl, rfl, rfl⟩
theorem fl_10_111 : FLk cn_10 111 10 9 (.object "SteamNations$Seatings") true := ⟨cn_10, ft_10, 20, fy_10, rfl, by decide, in_10, fo_10, nm_10, gm_2 94 rfl rfl, rfl, rfl⟩
theorem fl_10_123 : FLk cn_10 123 1 0 (.object "SteamNations$Room") true := ⟨cn_1, ft_1, 7, fy_1, rfl, by decide, in_1, fo_1, nm_1, gm_1 187 rfl rfl, rfl, rfl⟩
theorem fl_10_126 : FLk cn_10 126 6 0 (.int) false := ⟨cn_6, ft_6, 5, fy_6, rfl, by decide, in_6, fo_6, nm_6, gm_1 103 rfl rfl, rfl, rfl⟩
theorem fl_10_143 : FLk cn_10 143 6 1 (.array .int) true := ⟨cn_6, ft_6, 5, fy_6, rfl, by decide, in_6, fo_6, nm_6, gm_1 107 rfl rfl, rfl, rfl⟩
theorem fl_10_146 : FLk cn_10 146 6 2 (.array .int) true := ⟨cn_6, ft_6, 5, fy_6, rfl, by decide, in_6, fo_6, nm_6, gm_1 111 rfl rfl, rfl, rfl⟩
theorem fl_10_149 : FLk cn_10 149 6 3 (.array .int) true := ⟨cn_6, ft_6, 5, fy_6, rfl, by decide, in_6, fo_6, nm_6, gm_1 116 rfl rfl, rfl, rfl⟩
theorem fl_10_184 : FLk cn_10 184 6 4 (.array .int) true := ⟨cn_6, ft_6, 5, fy_6, rfl, by decide, in_6, fo_6, nm_6, gm_1 125 rfl rfl, rfl, rfl⟩
theorem fl_10_187 : FLk cn_10 187 10 16 (.int) false := ⟨cn_10, ft_10, 20, fy_10, rfl, by decide, in_10, fo_10, nm_10, gm_2 101 rfl rfl, rfl, rfl⟩
theorem fl_10_194 : FLk cn_10 194 10 18 (.int) false := ⟨cn_10, ft_10, 20, fy_10, rfl, by decide, in_10, fo_10, nm_10, gm_2 103 rfl rfl, rfl, rfl⟩
theorem fl_10_204 : FLk cn_10 204 1 3 (.int) false := ⟨cn_1, ft_1, 7, fy_1, rfl, by decide, in_1, fo_1, nm_1, gm_1 191 rfl rfl, rfl, rfl⟩
theorem fl_10_211 : FLk cn_10 211 5 10 (.int) false := ⟨cn_5, ft_5, 11, fy_5, rfl, by decide, in_5, fo_5, nm_5, gm_1 48 rfl rfl, rfl, rfl⟩
theorem fl_10_218 : FLk cn_10 218 0 6 (.int) false := ⟨cn_0, ft_0, 7, fy_0, rfl, by decide, in_0, fo_0, nm_0, gm_2 24 rfl rfl, rfl, rfl⟩
theorem fl_10_227 : FLk cn_10 227 1 4 (.int) false := ⟨cn_1, ft_1, 7, fy_1, rfl, by decide, in_1, fo_1, nm_1, gm_1 193 rfl rfl, rfl, rfl⟩
theorem fl_10_294 : FLk cn_10 294 1 6 (.int) false := ⟨cn_1, ft_1, 7, fy_1, rfl, by decide, in_1, fo_1, nm_1, gm_1 197 rfl rfl, rfl, rfl⟩
theorem fl_10_368 : FLk cn_10 368 4 2 (.int) false := ⟨cn_4, ft_4, 3, fy_4, rfl, by decide, in_4, fo_4, nm_4, gm_1 83 rfl rfl, rfl, rfl⟩
theorem fl_10_374 : FLk cn_10 374 10 19 (.int) false := ⟨cn_10, ft_10, 20, fy_10, rfl, by decide, in_10, fo_10, nm_10, gm_2 104 rfl rfl, rfl, rfl⟩
theorem fl_0_12 : FLk cn_0 12 0 2 (.object "SteamNations$Room") true := ⟨cn_0, ft_0, 7, fy_0, rfl, by decide, in_0, fo_0, nm_0, gm_2 19 rfl rfl, rfl, rfl⟩
theorem fl_0_21 : FLk cn_0 21 0 3 (.object "SteamNations$Past") true := ⟨cn_0, ft_0, 7, fy_0, rfl, by decide, in_0, fo_0, nm_0, gm_2 20 rfl rfl, rfl, rfl⟩
theorem fl_0_25 : FLk cn_0 25 0 6 (.int) false := ⟨cn_0, ft_0, 7, fy_0, rfl, by decide, in_0, fo_0, nm_0, gm_2 23 rfl rfl, rfl, rfl⟩
theorem fl_0_29 : FLk cn_0 29 0 0 (.object "SteamNations$Moves") true := ⟨cn_0, ft_0, 7, fy_0, rfl, by decide, in_0, fo_0, nm_0, gm_2 17 rfl rfl, rfl, rfl⟩
theorem fl_0_33 : FLk cn_0 33 0 1 (.object "SteamNations$Machine") true := ⟨cn_0, ft_0, 7, fy_0, rfl, by decide, in_0, fo_0, nm_0, gm_2 18 rfl rfl, rfl, rfl⟩
theorem fl_0_37 : FLk cn_0 37 3 0 (.object "SteamNations$House") true := ⟨cn_3, ft_3, 3, fy_3, rfl, by decide, in_3, fo_3, nm_3, gm_1 236 rfl rfl, rfl, rfl⟩
theorem fl_0_43 : FLk cn_0 43 1 0 (.object "SteamNations$Room") true := ⟨cn_1, ft_1, 7, fy_1, rfl, by decide, in_1, fo_1, nm_1, gm_1 186 rfl rfl, rfl, rfl⟩
theorem fl_0_52 : FLk cn_0 52 3 1 (.object "SteamNations$Past") true := ⟨cn_3, ft_3, 3, fy_3, rfl, by decide, in_3, fo_3, nm_3, gm_1 238 rfl rfl, rfl, rfl⟩
theorem fl_0_58 : FLk cn_0 58 0 4 (.int) false := ⟨cn_0, ft_0, 7, fy_0, rfl, by decide, in_0, fo_0, nm_0, gm_2 21 rfl rfl, rfl, rfl⟩
theorem fl_0_61 : FLk cn_0 61 0 5 (.int) false := ⟨cn_0, ft_0, 7, fy_0, rfl, by decide, in_0, fo_0, nm_0, gm_2 22 rfl rfl, rfl, rfl⟩
theorem fl_0_64 : FLk cn_0 64 9 2 (.int) true := ⟨cn_9, ft_9, 4, fy_9, rfl, by decide, in_9, fo_9, nm_9, gm_1 148 rfl rfl, rfl, rfl⟩
theorem fl_0_101 : FLk cn_0 101 2 0 (.array .int) true := ⟨cn_2, ft_2, 2, fy_2, rfl, by decide, in_2, fo_2, nm_2, gm_1 167 rfl rfl, rfl, rfl⟩
theorem fl_0_107 : FLk cn_0 107 6 4 (.array .int) true := ⟨cn_6, ft_6, 5, fy_6, rfl, by decide, in_6, fo_6, nm_6, gm_1 121 rfl rfl, rfl, rfl⟩
theorem fl_1_12 : FLk cn_1 12 1 0 (.object "SteamNations$Room") true := ⟨cn_1, ft_1, 7, fy_1, rfl, by decide, in_1, fo_1, nm_1, gm_1 184 rfl rfl, rfl, rfl⟩
theorem fl_1_20 : FLk cn_1 20 1 2 (.array (.object "SteamNations$Text")) true := ⟨cn_1, ft_1, 7, fy_1, rfl, by decide, in_1, fo_1, nm_1, gm_1 189 rfl rfl, rfl, rfl⟩
theorem fl_1_24 : FLk cn_1 24 1 4 (.int) false := ⟨cn_1, ft_1, 7, fy_1, rfl, by decide, in_1, fo_1, nm_1, gm_1 192 rfl rfl, rfl, rfl⟩
theorem fl_1_28 : FLk cn_1 28 1 5 (.array .int) true := ⟨cn_1, ft_1, 7, fy_1, rfl, by decide, in_1, fo_1, nm_1, gm_1 194 rfl rfl, rfl, rfl⟩
theorem fl_1_32 : FLk cn_1 32 1 1 (.object "SteamNations$Text") true := ⟨cn_1, ft_1, 7, fy_1, rfl, by decide, in_1, fo_1, nm_1, gm_1 188 rfl rfl, rfl, rfl⟩
theorem fl_1_40 : FLk cn_1 40 1 3 (.int) false := ⟨cn_1, ft_1, 7, fy_1, rfl, by decide, in_1, fo_1, nm_1, gm_1 190 rfl rfl, rfl, rfl⟩
theorem fl_1_49 : FLk cn_1 49 1 6 (.int) false := ⟨cn_1, ft_1, 7, fy_1, rfl, by decide, in_1, fo_1, nm_1, gm_1 195 rfl rfl, rfl, rfl⟩
theorem fl_2_13 : FLk cn_2 13 2 0 (.array .int) true := ⟨cn_2, ft_2, 2, fy_2, rfl, by decide, in_2, fo_2, nm_2, gm_1 166 rfl rfl, rfl, rfl⟩
theorem fl_2_19 : FLk cn_2 19 2 1 (.array .int) true := ⟨cn_2, ft_2, 2, fy_2, rfl, by decide, in_2, fo_2, nm_2, gm_1 169 rfl rfl, rfl, rfl⟩
theorem fl_2_28 : FLk cn_2 28 9 0 (.array .int) true := ⟨cn_9, ft_9, 4, fy_9, rfl, by decide, in_9, fo_9, nm_9, gm_1 144 rfl rfl, rfl, rfl⟩
theorem fl_3_9 : FLk cn_3 9 3 0 (.object "SteamNations$House") true := ⟨cn_3, ft_3, 3, fy_3, rfl, by decide, in_3, fo_3, nm_3, gm_1 235 rfl rfl, rfl, rfl⟩
theorem fl_3_15 : FLk cn_3 15 3 1 (.object "SteamNations$Past") true := ⟨cn_3, ft_3, 3, fy_3, rfl, by decide, in_3, fo_3, nm_3, gm_1 237 rfl rfl, rfl, rfl⟩
theorem fl_3_19 : FLk cn_3 19 3 2 (.object "SteamNations$Steam") true := ⟨cn_3, ft_3, 3, fy_3, rfl, by decide, in_3, fo_3, nm_3, gm_1 239 rfl rfl, rfl, rfl⟩
theorem fl_3_23 : FLk cn_3 23 1 0 (.object "SteamNations$Room") true := ⟨cn_1, ft_1, 7, fy_1, rfl, by decide, in_1, fo_1, nm_1, gm_1 185 rfl rfl, rfl, rfl⟩
theorem fl_3_45 : FLk cn_3 45 6 3 (.array .int) true := ⟨cn_6, ft_6, 5, fy_6, rfl, by decide, in_6, fo_6, nm_6, gm_1 115 rfl rfl, rfl, rfl⟩
theorem fl_3_56 : FLk cn_3 56 6 4 (.array .int) true := ⟨cn_6, ft_6, 5, fy_6, rfl, by decide, in_6, fo_6, nm_6, gm_1 124 rfl rfl, rfl, rfl⟩
theorem fl_4_11 : FLk cn_4 11 4 0 (.array .int) true := ⟨cn_4, ft_4, 3, fy_4, rfl, by decide, in_4, fo_4, nm_4, gm_1 80 rfl rfl, rfl, rfl⟩
theorem fl_4_15 : FLk cn_4 15 4 2 (.int) false := ⟨cn_4, ft_4, 3, fy_4, rfl, by decide, in_4, fo_4, nm_4, gm_1 82 rfl rfl, rfl, rfl⟩
theorem fl_4_25 : FLk cn_4 25 4 1 (.int) false := ⟨cn_4, ft_4, 3, fy_4, rfl, by decide, in_4, fo_4, nm_4, gm_1 81 rfl rfl, rfl, rfl⟩
theorem fl_4_28 : FLk cn_4 28 6 4 (.array .int) true := ⟨cn_6, ft_6, 5, fy_6, rfl, by decide, in_6, fo_6, nm_6, gm_1 122 rfl rfl, rfl, rfl⟩
theorem fl_4_33 : FLk cn_4 33 6 3 (.array .int) true := ⟨cn_6, ft_6, 5, fy_6, rfl, by decide, in_6, fo_6, nm_6, gm_1 118 rfl rfl, rfl, rfl⟩
theorem fl_4_36 : FLk cn_4 36 6 1 (.array .int) true := ⟨cn_6, ft_6, 5, fy_6, rfl, by decide, in_6, fo_6, nm_6, gm_1 108 rfl rfl, rfl, rfl⟩
theorem fl_5_11 : FLk cn_5 11 5 0 (.array .int) true := ⟨cn_5, ft_5, 11, fy_5, rfl, by decide, in_5, fo_5, nm_5, gm_1 37 rfl rfl, rfl, rfl⟩
theorem fl_5_15 : FLk cn_5 15 5 1 (.array .int) true := ⟨cn_5, ft_5, 11, fy_5, rfl, by decide, in_5, fo_5, nm_5, gm_1 38 rfl rfl, rfl, rfl⟩
theorem fl_5_18 : FLk cn_5 18 5 2 (.array .int) true := ⟨cn_5, ft_5, 11, fy_5, rfl, by decide, in_5, fo_5, nm_5, gm_1 39 rfl rfl, rfl, rfl⟩
theorem fl_5_23 : FLk cn_5 23 5 3 (.array .int) true := ⟨cn_5, ft_5, 11, fy_5, rfl, by decide, in_5, fo_5, nm_5, gm_1 40 rfl rfl, rfl, rfl⟩
theorem fl_5_28 : FLk cn_5 28 5 4 (.array .int) true := ⟨cn_5, ft_5, 11, fy_5, rfl, by decide, in_5, fo_5, nm_5, gm_1 41 rfl rfl, rfl, rfl⟩
theorem fl_5_31 : FLk cn_5 31 5 10 (.int) false := ⟨cn_5, ft_5, 11, fy_5, rfl, by decide, in_5, fo_5, nm_5, gm_1 47 rfl rfl, rfl, rfl⟩
theorem fl_5_35 : FLk cn_5 35 5 5 (.boolean) false := ⟨cn_5, ft_5, 11, fy_5, rfl, by decide, in_5, fo_5, nm_5, gm_1 42 rfl rfl, rfl, rfl⟩
theorem fl_5_39 : FLk cn_5 39 5 8 (.int) false := ⟨cn_5, ft_5, 11, fy_5, rfl, by decide, in_5, fo_5, nm_5, gm_1 45 rfl rfl, rfl, rfl⟩
theorem fl_5_42 : FLk cn_5 42 5 9 (.int) false := ⟨cn_5, ft_5, 11, fy_5, rfl, by decide, in_5, fo_5, nm_5, gm_1 46 rfl rfl, rfl, rfl⟩
theorem fl_5_55 : FLk cn_5 55 5 6 (.int) false := ⟨cn_5, ft_5, 11, fy_5, rfl, by decide, in_5, fo_5, nm_5, gm_1 43 rfl rfl, rfl, rfl⟩
theorem fl_5_71 : FLk cn_5 71 5 7 (.int) false := ⟨cn_5, ft_5, 11, fy_5, rfl, by decide, in_5, fo_5, nm_5, gm_1 44 rfl rfl, rfl, rfl⟩
theorem fl_6_9 : FLk cn_6 9 6 1 (.array .int) true := ⟨cn_6, ft_6, 5, fy_6, rfl, by decide, in_6, fo_6, nm_6, gm_1 106 rfl rfl, rfl, rfl⟩
theorem fl_6_15 : FLk cn_6 15 6 2 (.array .int) true := ⟨cn_6, ft_6, 5, fy_6, rfl, by decide, in_6, fo_6, nm_6, gm_1 110 rfl rfl, rfl, rfl⟩
theorem fl_6_18 : FLk cn_6 18 6 3 (.array .int) true := ⟨cn_6, ft_6, 5, fy_6, rfl, by decide, in_6, fo_6, nm_6, gm_1 114 rfl rfl, rfl, rfl⟩
theorem fl_6_24 : FLk cn_6 24 6 4 (.array .int) true := ⟨cn_6, ft_6, 5, fy_6, rfl, by decide, in_6, fo_6, nm_6, gm_1 120 rfl rfl, rfl, rfl⟩
theorem fl_6_33 : FLk cn_6 33 6 0 (.int) false := ⟨cn_6, ft_6, 5, fy_6, rfl, by decide, in_6, fo_6, nm_6, gm_1 102 rfl rfl, rfl, rfl⟩
theorem fl_7_12 : FLk cn_7 12 7 1 (.object "SteamNations$Room") true := ⟨cn_7, ft_7, 12, fy_7, rfl, by decide, in_7, fo_7, nm_7, gm_2 49 rfl rfl, rfl, rfl⟩
theorem fl_7_18 : FLk cn_7 18 7 2 (.array .int) true := ⟨cn_7, ft_7, 12, fy_7, rfl, by decide, in_7, fo_7, nm_7, gm_2 50 rfl rfl, rfl, rfl⟩
theorem fl_7_22 : FLk cn_7 22 7 3 (.array .int) true := ⟨cn_7, ft_7, 12, fy_7, rfl, by decide, in_7, fo_7, nm_7, gm_2 51 rfl rfl, rfl, rfl⟩
theorem fl_7_25 : FLk cn_7 25 7 4 (.array .int) true := ⟨cn_7, ft_7, 12, fy_7, rfl, by decide, in_7, fo_7, nm_7, gm_2 52 rfl rfl, rfl, rfl⟩
theorem fl_7_28 : FLk cn_7 28 7 5 (.array .int) true := ⟨cn_7, ft_7, 12, fy_7, rfl, by decide, in_7, fo_7, nm_7, gm_2 53 rfl rfl, rfl, rfl⟩
theorem fl_7_31 : FLk cn_7 31 7 6 (.array .int) true := ⟨cn_7, ft_7, 12, fy_7, rfl, by decide, in_7, fo_7, nm_7, gm_2 54 rfl rfl, rfl, rfl⟩
theorem fl_7_34 : FLk cn_7 34 7 7 (.array .int) true := ⟨cn_7, ft_7, 12, fy_7, rfl, by decide, in_7, fo_7, nm_7, gm_2 55 rfl rfl, rfl, rfl⟩
theorem fl_7_37 : FLk cn_7 37 7 8 (.array .int) true := ⟨cn_7, ft_7, 12, fy_7, rfl, by decide, in_7, fo_7, nm_7, gm_2 56 rfl rfl, rfl, rfl⟩
theorem fl_7_40 : FLk cn_7 40 7 11 (.int) false := ⟨cn_7, ft_7, 12, fy_7, rfl, by decide, in_7, fo_7, nm_7, gm_2 59 rfl rfl, rfl, rfl⟩
theorem fl_7_44 : FLk cn_7 44 7 0 (.object "SteamNations$Steam") true := ⟨cn_7, ft_7, 12, fy_7, rfl, by decide, in_7, fo_7, nm_7, gm_2 48 rfl rfl, rfl, rfl⟩
theorem fl_7_48 : FLk cn_7 48 7 10 (.int) false := ⟨cn_7, ft_7, 12, fy_7, rfl, by decide, in_7, fo_7, nm_7, gm_2 58 rfl rfl, rfl, rfl⟩
theorem fl_7_71 : FLk cn_7 71 6 0 (.int) false := ⟨cn_6, ft_6, 5, fy_6, rfl, by decide, in_6, fo_6, nm_6, gm_1 105 rfl rfl, rfl, rfl⟩
theorem fl_7_78 : FLk cn_7 78 6 2 (.array .int) true := ⟨cn_6, ft_6, 5, fy_6, rfl, by decide, in_6, fo_6, nm_6, gm_1 112 rfl rfl, rfl, rfl⟩
theorem fl_7_104 : FLk cn_7 104 7 9 (.int) false := ⟨cn_7, ft_7, 12, fy_7, rfl, by decide, in_7, fo_7, nm_7, gm_2 57 rfl rfl, rfl, rfl⟩
theorem fl_7_129 : FLk cn_7 129 1 6 (.int) false := ⟨cn_1, ft_1, 7, fy_1, rfl, by decide, in_1, fo_1, nm_1, gm_1 196 rfl rfl, rfl, rfl⟩
theorem fl_7_152 : FLk cn_7 152 6 3 (.array .int) true := ⟨cn_6, ft_6, 5, fy_6, rfl, by decide, in_6, fo_6, nm_6, gm_1 119 rfl rfl, rfl, rfl⟩
theorem fl_8_9 : FLk cn_8 9 8 1 (.array .int) true := ⟨cn_8, ft_8, 3, fy_8, rfl, by decide, in_8, fo_8, nm_8, gm_1 220 rfl rfl, rfl, rfl⟩
theorem fl_8_15 : FLk cn_8 15 8 2 (.array .int) true := ⟨cn_8, ft_8, 3, fy_8, rfl, by decide, in_8, fo_8, nm_8, gm_1 221 rfl rfl, rfl, rfl⟩
theorem fl_8_18 : FLk cn_8 18 8 0 (.object "SteamNations$Machine") true := ⟨cn_8, ft_8, 3, fy_8, rfl, by decide, in_8, fo_8, nm_8, gm_1 219 rfl rfl, rfl, rfl⟩
theorem fl_8_32 : FLk cn_8 32 9 2 (.int) true := ⟨cn_9, ft_9, 4, fy_9, rfl, by decide, in_9, fo_9, nm_9, gm_1 147 rfl rfl, rfl, rfl⟩
theorem fl_8_73 : FLk cn_8 73 6 0 (.int) false := ⟨cn_6, ft_6, 5, fy_6, rfl, by decide, in_6, fo_6, nm_6, gm_1 104 rfl rfl, rfl, rfl⟩
theorem fl_8_76 : FLk cn_8 76 6 3 (.array .int) true := ⟨cn_6, ft_6, 5, fy_6, rfl, by decide, in_6, fo_6, nm_6, gm_1 117 rfl rfl, rfl, rfl⟩
theorem fl_8_83 : FLk cn_8 83 6 1 (.array .int) true := ⟨cn_6, ft_6, 5, fy_6, rfl, by decide, in_6, fo_6, nm_6, gm_1 109 rfl rfl, rfl, rfl⟩
theorem fl_8_93 : FLk cn_8 93 6 4 (.array .int) true := ⟨cn_6, ft_6, 5, fy_6, rfl, by decide, in_6, fo_6, nm_6, gm_1 123 rfl rfl, rfl, rfl⟩
theorem fl_8_99 : FLk cn_8 99 2 0 (.array .int) true := ⟨cn_2, ft_2, 2, fy_2, rfl, by decide, in_2, fo_2, nm_2, gm_1 168 rfl rfl, rfl, rfl⟩
theorem fl_8_102 : FLk cn_8 102 6 2 (.array .int) true := ⟨cn_6, ft_6, 5, fy_6, rfl, by decide, in_6, fo_6, nm_6, gm_1 113 rfl rfl, rfl, rfl⟩
theorem fl_9_9 : FLk cn_9 9 9 0 (.array .int) true := ⟨cn_9, ft_9, 4, fy_9, rfl, by decide, in_9, fo_9, nm_9, gm_1 143 rfl rfl, rfl, rfl⟩
theorem fl_9_15 : FLk cn_9 15 9 1 (.array .int) true := ⟨cn_9, ft_9, 4, fy_9, rfl, by decide, in_9, fo_9, nm_9, gm_1 145 rfl rfl, rfl, rfl⟩
theorem fl_9_18 : FLk cn_9 18 9 2 (.int) true := ⟨cn_9, ft_9, 4, fy_9, rfl, by decide, in_9, fo_9, nm_9, gm_1 146 rfl rfl, rfl, rfl⟩
theorem fl_9_22 : FLk cn_9 22 9 3 (.int) true := ⟨cn_9, ft_9, 4, fy_9, rfl, by decide, in_9, fo_9, nm_9, gm_1 149 rfl rfl, rfl, rfl⟩
theorem fl_11_3 : FLk cn_11 3 11 0 (.int) false := ⟨cn_11, ft_11, 56, fy_11, rfl, by decide, in_11, fo_11, nm_11, gm_5 173 rfl rfl, rfl, rfl⟩
theorem fl_11_7 : FLk cn_11 7 11 1 (.array .int) true := ⟨cn_11, ft_11, 56, fy_11, rfl, by decide, in_11, fo_11, nm_11, gm_5 174 rfl rfl, rfl, rfl⟩
theorem fl_11_11 : FLk cn_11 11 11 32 (.int) false := ⟨cn_11, ft_11, 56, fy_11, rfl, by decide, in_11, fo_11, nm_11, gm_5 205 rfl rfl, rfl, rfl⟩
theorem fl_11_28 : FLk cn_11 28 11 2 (.array .int) true := ⟨cn_11, ft_11, 56, fy_11, rfl, by decide, in_11, fo_11, nm_11, gm_5 175 rfl rfl, rfl, rfl⟩
theorem fl_11_31 : FLk cn_11 31 11 3 (.array .int) true := ⟨cn_11, ft_11, 56, fy_11, rfl, by decide, in_11, fo_11, nm_11, gm_5 176 rfl rfl, rfl, rfl⟩
theorem fl_11_34 : FLk cn_11 34 11 4 (.array .boolean) true := ⟨cn_11, ft_11, 56, fy_11, rfl, by decide, in_11, fo_11, nm_11, gm_5 177 rfl rfl, rfl, rfl⟩
theorem fl_11_38 : FLk cn_11 38 11 5 (.array .int) true := ⟨cn_11, ft_11, 56, fy_11, rfl, by decide, in_11, fo_11, nm_11, gm_5 178 rfl rfl, rfl, rfl⟩
theorem fl_11_41 : FLk cn_11 41 11 7 (.array .byte) true := ⟨cn_11, ft_11, 56, fy_11, rfl, by decide, in_11, fo_11, nm_11, gm_5 180 rfl rfl, rfl, rfl⟩
theorem fl_11_45 : FLk cn_11 45 11 11 (.array .byte) true := ⟨cn_11, ft_11, 56, fy_11, rfl, by decide, in_11, fo_11, nm_11, gm_5 184 rfl rfl, rfl, rfl⟩
theorem fl_11_48 : FLk cn_11 48 11 12 (.array .int) true := ⟨cn_11, ft_11, 56, fy_11, rfl, by decide, in_11, fo_11, nm_11, gm_5 185 rfl rfl, rfl, rfl⟩
theorem fl_11_51 : FLk cn_11 51 11 14 (.int) false := ⟨cn_11, ft_11, 56, fy_11, rfl, by decide, in_11, fo_11, nm_11, gm_5 187 rfl rfl, rfl, rfl⟩
theorem fl_11_54 : FLk cn_11 54 11 15 (.array .int) true := ⟨cn_11, ft_11, 56, fy_11, rfl, by decide, in_11, fo_11, nm_11, gm_5 188 rfl rfl, rfl, rfl⟩
theorem fl_11_57 : FLk cn_11 57 11 16 (.array .int) true := ⟨cn_11, ft_11, 56, fy_11, rfl, by decide, in_11, fo_11, nm_11, gm_5 189 rfl rfl, rfl, rfl⟩
theorem fl_11_60 : FLk cn_11 60 11 17 (.array .int) true := ⟨cn_11, ft_11, 56, fy_11, rfl, by decide, in_11, fo_11, nm_11, gm_5 190 rfl rfl, rfl, rfl⟩
theorem fl_11_63 : FLk cn_11 63 11 26 (.array .int) true := ⟨cn_11, ft_11, 56, fy_11, rfl, by decide, in_11, fo_11, nm_11, gm_5 199 rfl rfl, rfl, rfl⟩
theorem fl_11_66 : FLk cn_11 66 11 29 (.array .int) true := ⟨cn_11, ft_11, 56, fy_11, rfl, by decide, in_11, fo_11, nm_11, gm_5 202 rfl rfl, rfl, rfl⟩
theorem fl_11_69 : FLk cn_11 69 11 30 (.array .int) true := ⟨cn_11, ft_11, 56, fy_11, rfl, by decide, in_11, fo_11, nm_11, gm_5 203 rfl rfl, rfl, rfl⟩
theorem fl_11_72 : FLk cn_11 72 11 31 (.array .int) true := ⟨cn_11, ft_11, 56, fy_11, rfl, by decide, in_11, fo_11, nm_11, gm_5 204 rfl rfl, rfl, rfl⟩
theorem fl_11_75 : FLk cn_11 75 11 33 (.array .int) true := ⟨cn_11, ft_11, 56, fy_11, rfl, by decide, in_11, fo_11, nm_11, gm_5 206 rfl rfl, rfl, rfl⟩
theorem fl_11_78 : FLk cn_11 78 11 34 (.array .int) true := ⟨cn_11, ft_11, 56, fy_11, rfl, by decide, in_11, fo_11, nm_11, gm_5 207 rfl rfl, rfl, rfl⟩
theorem fl_11_81 : FLk cn_11 81 11 37 (.array .int) true := ⟨cn_11, ft_11, 56, fy_11, rfl, by decide, in_11, fo_11, nm_11, gm_5 210 rfl rfl, rfl, rfl⟩
theorem fl_11_84 : FLk cn_11 84 11 38 (.array .int) true := ⟨cn_11, ft_11, 56, fy_11, rfl, by decide, in_11, fo_11, nm_11, gm_5 211 rfl rfl, rfl, rfl⟩
theorem fl_11_87 : FLk cn_11 87 11 39 (.array .int) true := ⟨cn_11, ft_11, 56, fy_11, rfl, by decide, in_11, fo_11, nm_11, gm_5 212 rfl rfl, rfl, rfl⟩
theorem fl_11_90 : FLk cn_11 90 11 40 (.array .boolean) true := ⟨cn_11, ft_11, 56, fy_11, rfl, by decide, in_11, fo_11, nm_11, gm_5 213 rfl rfl, rfl, rfl⟩
theorem fl_11_93 : FLk cn_11 93 11 41 (.array .int) true := ⟨cn_11, ft_11, 56, fy_11, rfl, by decide, in_11, fo_11, nm_11, gm_5 214 rfl rfl, rfl, rfl⟩
theorem fl_11_96 : FLk cn_11 96 11 42 (.array .int) true := ⟨cn_11, ft_11, 56, fy_11, rfl, by decide, in_11, fo_11, nm_11, gm_5 215 rfl rfl, rfl, rfl⟩
theorem fl_11_99 : FLk cn_11 99 11 43 (.array .int) true := ⟨cn_11, ft_11, 56, fy_11, rfl, by decide, in_11, fo_11, nm_11, gm_5 216 rfl rfl, rfl, rfl⟩
theorem fl_11_102 : FLk cn_11 102 11 44 (.array .int) true := ⟨cn_11, ft_11, 56, fy_11, rfl, by decide, in_11, fo_11, nm_11, gm_5 217 rfl rfl, rfl, rfl⟩
theorem fl_11_105 : FLk cn_11 105 11 45 (.array .long) true := ⟨cn_11, ft_11, 56, fy_11, rfl, by decide, in_11, fo_11, nm_11, gm_5 218 rfl rfl, rfl, rfl⟩
theorem fl_11_109 : FLk cn_11 109 11 46 (.int) false := ⟨cn_11, ft_11, 56, fy_11, rfl, by decide, in_11, fo_11, nm_11, gm_5 219 rfl rfl, rfl, rfl⟩
theorem fl_11_112 : FLk cn_11 112 11 52 (.array .long) true := ⟨cn_11, ft_11, 56, fy_11, rfl, by decide, in_11, fo_11, nm_11, gm_5 225 rfl rfl, rfl, rfl⟩
theorem fl_11_115 : FLk cn_11 115 11 53 (.array .int) true := ⟨cn_11, ft_11, 56, fy_11, rfl, by decide, in_11, fo_11, nm_11, gm_5 226 rfl rfl, rfl, rfl⟩
theorem fl_11_118 : FLk cn_11 118 11 54 (.int) false := ⟨cn_11, ft_11, 56, fy_11, rfl, by decide, in_11, fo_11, nm_11, gm_5 227 rfl rfl, rfl, rfl⟩
theorem fl_11_182 : FLk cn_11 182 11 13 (.int) false := ⟨cn_11, ft_11, 56, fy_11, rfl, by decide, in_11, fo_11, nm_11, gm_5 186 rfl rfl, rfl, rfl⟩
theorem fl_11_185 : FLk cn_11 185 11 6 (.int) false := ⟨cn_11, ft_11, 56, fy_11, rfl, by decide, in_11, fo_11, nm_11, gm_5 179 rfl rfl, rfl, rfl⟩
theorem fl_11_188 : FLk cn_11 188 11 18 (.int) false := ⟨cn_11, ft_11, 56, fy_11, rfl, by decide, in_11, fo_11, nm_11, gm_5 191 rfl rfl, rfl, rfl⟩
theorem fl_11_201 : FLk cn_11 201 11 21 (.int) false := ⟨cn_11, ft_11, 56, fy_11, rfl, by decide, in_11, fo_11, nm_11, gm_5 194 rfl rfl, rfl, rfl⟩
theorem fl_11_208 : FLk cn_11 208 11 19 (.int) false := ⟨cn_11, ft_11, 56, fy_11, rfl, by decide, in_11, fo_11, nm_11, gm_5 192 rfl rfl, rfl, rfl⟩
theorem fl_11_217 : FLk cn_11 217 11 20 (.int) false := ⟨cn_11, ft_11, 56, fy_11, rfl, by decide, in_11, fo_11, nm_11, gm_5 193 rfl rfl, rfl, rfl⟩
theorem fl_11_234 : FLk cn_11 234 11 10 (.boolean) false := ⟨cn_11, ft_11, 56, fy_11, rfl, by decide, in_11, fo_11, nm_11, gm_5 183 rfl rfl, rfl, rfl⟩
theorem fl_11_260 : FLk cn_11 260 11 8 (.int) false := ⟨cn_11, ft_11, 56, fy_11, rfl, by decide, in_11, fo_11, nm_11, gm_5 181 rfl rfl, rfl, rfl⟩
theorem fl_11_263 : FLk cn_11 263 11 9 (.int) false := ⟨cn_11, ft_11, 56, fy_11, rfl, by decide, in_11, fo_11, nm_11, gm_5 182 rfl rfl, rfl, rfl⟩
theorem fl_11_288 : FLk cn_11 288 11 23 (.int) false := ⟨cn_11, ft_11, 56, fy_11, rfl, by decide, in_11, fo_11, nm_11, gm_5 196 rfl rfl, rfl, rfl⟩
theorem fl_11_291 : FLk cn_11 291 11 22 (.int) false := ⟨cn_11, ft_11, 56, fy_11, rfl, by decide, in_11, fo_11, nm_11, gm_5 195 rfl rfl, rfl, rfl⟩
theorem fl_11_301 : FLk cn_11 301 11 24 (.boolean) false := ⟨cn_11, ft_11, 56, fy_11, rfl, by decide, in_11, fo_11, nm_11, gm_5 197 rfl rfl, rfl, rfl⟩
theorem fl_11_321 : FLk cn_11 321 11 25 (.boolean) false := ⟨cn_11, ft_11, 56, fy_11, rfl, by decide, in_11, fo_11, nm_11, gm_5 198 rfl rfl, rfl, rfl⟩
theorem fl_11_327 : FLk cn_11 327 11 27 (.int) false := ⟨cn_11, ft_11, 56, fy_11, rfl, by decide, in_11, fo_11, nm_11, gm_5 200 rfl rfl, rfl, rfl⟩
theorem fl_11_330 : FLk cn_11 330 11 28 (.int) false := ⟨cn_11, ft_11, 56, fy_11, rfl, by decide, in_11, fo_11, nm_11, gm_5 201 rfl rfl, rfl, rfl⟩
theorem fl_11_397 : FLk cn_11 397 11 35 (.int) false := ⟨cn_11, ft_11, 56, fy_11, rfl, by decide, in_11, fo_11, nm_11, gm_5 208 rfl rfl, rfl, rfl⟩
theorem fl_11_400 : FLk cn_11 400 11 36 (.int) false := ⟨cn_11, ft_11, 56, fy_11, rfl, by decide, in_11, fo_11, nm_11, gm_5 209 rfl rfl, rfl, rfl⟩
theorem fl_11_458 : FLk cn_11 458 11 47 (.int) false := ⟨cn_11, ft_11, 56, fy_11, rfl, by decide, in_11, fo_11, nm_11, gm_5 220 rfl rfl, rfl, rfl⟩
theorem fl_11_464 : FLk cn_11 464 11 49 (.int) false := ⟨cn_11, ft_11, 56, fy_11, rfl, by decide, in_11, fo_11, nm_11, gm_5 222 rfl rfl, rfl, rfl⟩
theorem fl_11_467 : FLk cn_11 467 11 50 (.boolean) false := ⟨cn_11, ft_11, 56, fy_11, rfl, by decide, in_11, fo_11, nm_11, gm_5 223 rfl rfl, rfl, rfl⟩
theorem fl_11_470 : FLk cn_11 470 11 48 (.int) false := ⟨cn_11, ft_11, 56, fy_11, rfl, by decide, in_11, fo_11, nm_11, gm_5 221 rfl rfl, rfl, rfl⟩
theorem fl_11_473 : FLk cn_11 473 11 51 (.boolean) false := ⟨cn_11, ft_11, 56, fy_11, rfl, by decide, in_11, fo_11, nm_11, gm_5 224 rfl rfl, rfl, rfl⟩
theorem fl_11_491 : FLk cn_11 491 11 55 (.int) false := ⟨cn_11, ft_11, 56, fy_11, rfl, by decide, in_11, fo_11, nm_11, gm_5 228 rfl rfl, rfl, rfl⟩
theorem ml_10_115 : SLk cn_10 115 ⟨"SteamNations", "canBeSitter", "(IIII)Z"⟩ prog_1_method_49_code 4 (some .boolean) 4 := ⟨gm_2 150 rfl rfl, gm_2 151 rfl rfl, gm_1 1 rfl rfl, gm_2 152 rfl rfl, ⟨by decide, by decide, by decide +kernel⟩, by decide⟩
theorem ml_10_119 : VLk cn_10 119 ⟨"SteamNations", "answer", "(I)I"⟩ prog_1_method_40_code 2 (some .int) 10 1 := ⟨rfl, gm_2 156 rfl rfl, gm_2 158 rfl rfl, gw_mem 0 (by decide +kernel) rfl, gm_1 1 rfl rfl, gm_2 159 rfl rfl, ⟨by decide, by decide, by decide +kernel⟩, by decide⟩
theorem ml_10_129 : VLk cn_10 129 ⟨"SteamNations$Past", "clear", "()V"⟩ prog_6_method_2_code 1 none 4 0 := ⟨rfl, gm_2 160 rfl rfl, gm_2 161 rfl rfl, gm_2 162 rfl rfl, gm_1 3 rfl rfl, gm_2 163 rfl rfl, ⟨by decide, by decide, by decide +kernel⟩, by decide⟩
theorem ml_10_132 : VLk cn_10 132 ⟨"SteamNations$Room", "add", "(IIII)I"⟩ prog_8_method_3_code 6 (some .int) 6 4 := ⟨rfl, gm_2 164 rfl rfl, gm_2 165 rfl rfl, gm_2 166 rfl rfl, gm_1 4 rfl rfl, gm_2 167 rfl rfl, ⟨by decide, by decide, by decide +kernel⟩, by decide⟩
theorem ml_10_136 : VLk cn_10 136 ⟨"SteamNations", "answerChanged", "(I)I"⟩ prog_1_method_41_code 2 (some .int) 10 1 := ⟨rfl, gm_2 168 rfl rfl, gm_2 170 rfl rfl, gw_mem 1 (by decide +kernel) rfl, gm_1 1 rfl rfl, gm_2 171 rfl rfl, ⟨by decide, by decide, by decide +kernel⟩, by decide⟩
theorem ml_10_139 : VLk cn_10 139 ⟨"SteamNations$Room", "has", "(I)Z"⟩ prog_8_method_4_code 2 (some .boolean) 6 1 := ⟨rfl, gm_2 180 rfl rfl, gm_2 181 rfl rfl, gm_2 182 rfl rfl, gm_1 4 rfl rfl, gm_2 183 rfl rfl, ⟨by decide, by decide, by decide +kernel⟩, by decide⟩
theorem ml_10_152 : VLk cn_10 152 ⟨"SteamNations$Room", "nationOf", "(I)I"⟩ prog_8_method_8_code 4 (some .int) 6 1 := ⟨rfl, gm_2 184 rfl rfl, gm_2 185 rfl rfl, gm_2 186 rfl rfl, gm_1 4 rfl rfl, gm_2 187 rfl rfl, ⟨by decide, by decide, by decide +kernel⟩, by decide⟩
theorem ml_10_155 : VLk cn_10 155 ⟨"SteamNations$Room", "isInside", "(I)Z"⟩ prog_8_method_5_code 2 (some .boolean) 6 1 := ⟨rfl, gm_2 188 rfl rfl, gm_2 189 rfl rfl, gm_2 190 rfl rfl, gm_1 4 rfl rfl, gm_2 191 rfl rfl, ⟨by decide, by decide, by decide +kernel⟩, by decide⟩
theorem ml_10_158 : VLk cn_10 158 ⟨"SteamNations$House", "inForce", "()LSteamNations$Text;"⟩ prog_3_method_5_code 1 (some (.object "SteamNations$Text")) 1 0 := ⟨rfl, gm_2 193 rfl rfl, gm_2 194 rfl rfl, gm_2 195 rfl rfl, gm_1 8 rfl rfl, gm_2 196 rfl rfl, ⟨by decide, by decide, by decide +kernel⟩, by decide⟩
theorem ml_10_162 : VLk cn_10 162 ⟨"SteamNations$Steam", "anyHolds", "(LSteamNations$Room;LSteamNations$Text;II)Z"⟩ prog_10_method_2_code 6 (some .boolean) 8 4 := ⟨rfl, gm_2 205 rfl rfl, gm_2 206 rfl rfl, gm_2 207 rfl rfl, gm_1 9 rfl rfl, gm_2 208 rfl rfl, ⟨by decide, by decide, by decide +kernel⟩, by decide⟩
theorem ml_10_166 : SLk cn_10 166 ⟨"SteamNations", "oneIf", "(Z)I"⟩ prog_1_method_54_code 1 (some .int) 1 := ⟨gm_3 3 rfl rfl, gm_3 4 rfl rfl, gm_1 1 rfl rfl, gm_3 5 rfl rfl, ⟨by decide, by decide, by decide +kernel⟩, by decide⟩
theorem ml_10_170 : VLk cn_10 170 ⟨"SteamNations$Room", "whoAt", "(I)I"⟩ prog_8_method_6_code 3 (some .int) 6 1 := ⟨rfl, gm_3 10 rfl rfl, gm_3 11 rfl rfl, gm_3 12 rfl rfl, gm_1 4 rfl rfl, gm_3 13 rfl rfl, ⟨by decide, by decide, by decide +kernel⟩, by decide⟩
theorem ml_10_173 : SLk cn_10 173 ⟨"SteamNations", "areBeside", "(II)Z"⟩ prog_1_method_53_code 4 (some .boolean) 2 := ⟨gm_3 18 rfl rfl, gm_3 19 rfl rfl, gm_1 1 rfl rfl, gm_3 20 rfl rfl, ⟨by decide, by decide, by decide +kernel⟩, by decide⟩
theorem ml_10_177 : VLk cn_10 177 ⟨"SteamNations$Steam", "partsTold", "(LSteamNations$Room;LSteamNations$Text;II)I"⟩ prog_10_method_3_code 7 (some .int) 8 4 := ⟨rfl, gm_3 24 rfl rfl, gm_3 25 rfl rfl, gm_3 26 rfl rfl, gm_1 9 rfl rfl, gm_3 27 rfl rfl, ⟨by decide, by decide, by decide +kernel⟩, by decide⟩
theorem ml_10_190 : VLk cn_10 190 ⟨"SteamNations", "putFour", "(I)V"⟩ prog_1_method_42_code 3 none 10 1 := ⟨rfl, gm_3 41 rfl rfl, gm_3 43 rfl rfl, gw_mem 4 (by decide +kernel) rfl, gm_1 1 rfl rfl, gm_3 44 rfl rfl, ⟨by decide, by decide, by decide +kernel⟩, by decide⟩
theorem ml_10_197 : VLk cn_10 197 ⟨"SteamNations", "sitterFromTape", "(I)Z"⟩ prog_1_method_44_code 2 (some .boolean) 10 1 := ⟨rfl, gm_3 53 rfl rfl, gm_3 55 rfl rfl, gw_mem 5 (by decide +kernel) rfl, gm_1 1 rfl rfl, gm_3 56 rfl rfl, ⟨by decide, by decide, by decide +kernel⟩, by decide⟩
theorem ml_10_200 : VLk cn_10 200 ⟨"SteamNations", "takeTape", "()I"⟩ prog_1_method_43_code 2 (some .int) 10 0 := ⟨rfl, gm_3 65 rfl rfl, gm_3 67 rfl rfl, gw_mem 6 (by decide +kernel) rfl, gm_1 1 rfl rfl, gm_3 68 rfl rfl, ⟨by decide, by decide, by decide +kernel⟩, by decide⟩
theorem ml_10_207 : VLk cn_10 207 ⟨"SteamNations$Reader", "read", "([IIZ)LSteamNations$Text;"⟩ prog_7_method_2_code 6 (some (.object "SteamNations$Text")) 5 3 := ⟨rfl, gm_3 69 rfl rfl, gm_3 70 rfl rfl, gm_3 71 rfl rfl, gm_1 2 rfl rfl, gm_3 72 rfl rfl, ⟨by decide, by decide, by decide +kernel⟩, by decide⟩
theorem ml_10_214 : VLk cn_10 214 ⟨"SteamNations$House", "addLaw", "(LSteamNations$Text;)I"⟩ prog_3_method_6_code 2 (some .int) 1 1 := ⟨rfl, gm_4 5 rfl rfl, gm_4 6 rfl rfl, gm_4 7 rfl rfl, gm_1 8 rfl rfl, gm_4 8 rfl rfl, ⟨by decide, by decide, by decide +kernel⟩, by decide⟩
theorem ml_10_221 : VLk cn_10 221 ⟨"SteamNations$Errands", "run", "(LSteamNations$Text;)I"⟩ prog_2_method_2_code 4 (some .int) 0 1 := ⟨rfl, gm_4 14 rfl rfl, gm_4 15 rfl rfl, gm_4 16 rfl rfl, gm_1 11 rfl rfl, gm_4 17 rfl rfl, ⟨by decide, by decide, by decide +kernel⟩, by decide⟩
theorem ml_10_224 : VLk cn_10 224 ⟨"SteamNations$House", "hasLaw", "(I)Z"⟩ prog_3_method_3_code 2 (some .boolean) 1 1 := ⟨rfl, gm_4 110 rfl rfl, gm_2 202 rfl rfl, gm_2 203 rfl rfl, gm_1 8 rfl rfl, gm_2 204 rfl rfl, ⟨by decide, by decide, by decide +kernel⟩, by decide⟩
theorem ml_10_230 : VLk cn_10 230 ⟨"SteamNations$Moves", "toSeat", "(II)I"⟩ prog_5_method_2_code 4 (some .int) 3 2 := ⟨rfl, gm_4 115 rfl rfl, gm_4 54 rfl rfl, gm_4 55 rfl rfl, gm_1 10 rfl rfl, gm_4 56 rfl rfl, ⟨by decide, by decide, by decide +kernel⟩, by decide⟩
theorem ml_10_234 : VLk cn_10 234 ⟨"SteamNations$Moves", "toSendOut", "(I)I"⟩ prog_5_method_3_code 4 (some .int) 3 1 := ⟨rfl, gm_4 120 rfl rfl, gm_4 66 rfl rfl, gm_4 67 rfl rfl, gm_1 10 rfl rfl, gm_4 68 rfl rfl, ⟨by decide, by decide, by decide +kernel⟩, by decide⟩
theorem ml_10_237 : VLk cn_10 237 ⟨"SteamNations$Moves", "toExchange", "(II)I"⟩ prog_5_method_4_code 5 (some .int) 3 2 := ⟨rfl, gm_4 125 rfl rfl, gm_4 71 rfl rfl, gm_4 72 rfl rfl, gm_1 10 rfl rfl, gm_4 73 rfl rfl, ⟨by decide, by decide, by decide +kernel⟩, by decide⟩
theorem ml_10_240 : VLk cn_10 240 ⟨"SteamNations$Moves", "toPassMinute", "()I"⟩ prog_5_method_5_code 2 (some .int) 3 0 := ⟨rfl, gm_4 130 rfl rfl, gm_4 75 rfl rfl, gm_4 76 rfl rfl, gm_1 10 rfl rfl, gm_4 77 rfl rfl, ⟨by decide, by decide, by decide +kernel⟩, by decide⟩
theorem ml_10_243 : VLk cn_10 243 ⟨"SteamNations$Past", "bringBack", "(LSteamNations$Room;)I"⟩ prog_6_method_5_code 3 (some .int) 4 1 := ⟨rfl, gm_4 135 rfl rfl, gm_4 136 rfl rfl, gm_4 137 rfl rfl, gm_1 3 rfl rfl, gm_4 138 rfl rfl, ⟨by decide, by decide, by decide +kernel⟩, by decide⟩
theorem ml_10_247 : SLk cn_10 247 ⟨"SteamNations", "isFarMinute", "(I)Z"⟩ prog_1_method_51_code 1 (some .boolean) 1 := ⟨gm_4 143 rfl rfl, gm_4 144 rfl rfl, gm_1 1 rfl rfl, gm_4 145 rfl rfl, ⟨by decide, by decide, by decide +kernel⟩, by decide⟩
theorem ml_10_250 : VLk cn_10 250 ⟨"SteamNations", "playOnPaper", "(LSteamNations$Text;I)V"⟩ prog_1_method_45_code 4 none 10 2 := ⟨rfl, gm_4 146 rfl rfl, gm_4 148 rfl rfl, gw_mem 35 (by decide +kernel) rfl, gm_1 1 rfl rfl, gm_4 149 rfl rfl, ⟨by decide, by decide, by decide +kernel⟩, by decide⟩
theorem ml_10_254 : VLk cn_10 254 ⟨"SteamNations$Room", "copyFrom", "(LSteamNations$Room;)V"⟩ prog_8_method_2_code 2 none 6 1 := ⟨rfl, gm_4 150 rfl rfl, gm_4 19 rfl rfl, gm_4 20 rfl rfl, gm_1 4 rfl rfl, gm_4 21 rfl rfl, ⟨by decide, by decide, by decide +kernel⟩, by decide⟩
theorem ml_10_258 : VLk cn_10 258 ⟨"SteamNations$Steam", "passMinute", "(LSteamNations$Room;LSteamNations$Text;)V"⟩ prog_10_method_4_code 9 none 8 2 := ⟨rfl, gm_4 151 rfl rfl, gm_4 80 rfl rfl, gm_4 81 rfl rfl, gm_1 9 rfl rfl, gm_4 82 rfl rfl, ⟨by decide, by decide, by decide +kernel⟩, by decide⟩
theorem ml_10_262 : VLk cn_10 262 ⟨"SteamNations$Room", "insideAreOne", "()Z"⟩ prog_8_method_12_code 3 (some .boolean) 6 0 := ⟨rfl, gm_4 160 rfl rfl, gm_4 161 rfl rfl, gm_4 162 rfl rfl, gm_1 4 rfl rfl, gm_4 163 rfl rfl, ⟨by decide, by decide, by decide +kernel⟩, by decide⟩
theorem ml_10_266 : SLk cn_10 266 ⟨"SteamNations", "isNearMinute", "(I)Z"⟩ prog_1_method_52_code 1 (some .boolean) 1 := ⟨gm_4 168 rfl rfl, gm_4 169 rfl rfl, gm_1 1 rfl rfl, gm_4 170 rfl rfl, ⟨by decide, by decide, by decide +kernel⟩, by decide⟩
theorem ml_10_269 : VLk cn_10 269 ⟨"SteamNations$Seatings", "lookAhead", "(LSteamNations$Room;LSteamNations$Text;I)V"⟩ prog_9_method_3_code 6 none 7 3 := ⟨rfl, gm_4 171 rfl rfl, gm_4 172 rfl rfl, gm_4 173 rfl rfl, gm_1 12 rfl rfl, gm_4 174 rfl rfl, ⟨by decide, by decide, by decide +kernel⟩, by decide⟩
theorem ml_10_273 : VLk cn_10 273 ⟨"SteamNations$Seatings", "bestAt", "(LSteamNations$Room;I)I"⟩ prog_9_method_6_code 7 (some .int) 7 2 := ⟨rfl, gm_4 199 rfl rfl, gm_4 200 rfl rfl, gm_4 201 rfl rfl, gm_1 12 rfl rfl, gm_4 202 rfl rfl, ⟨by decide, by decide, by decide +kernel⟩, by decide⟩
theorem ml_10_277 : VLk cn_10 277 ⟨"SteamNations$Seatings", "contentedIn", "(LSteamNations$Room;II)I"⟩ prog_9_method_5_code 6 (some .int) 7 3 := ⟨rfl, gm_4 212 rfl rfl, gm_4 204 rfl rfl, gm_4 205 rfl rfl, gm_1 12 rfl rfl, gm_4 206 rfl rfl, ⟨by decide, by decide, by decide +kernel⟩, by decide⟩
theorem ml_10_281 : VLk cn_10 281 ⟨"SteamNations$Seatings", "seatIn", "(II)I"⟩ prog_9_method_4_code 3 (some .int) 7 2 := ⟨rfl, gm_4 213 rfl rfl, gm_4 214 rfl rfl, gm_4 215 rfl rfl, gm_1 12 rfl rfl, gm_4 216 rfl rfl, ⟨by decide, by decide, by decide +kernel⟩, by decide⟩
theorem ml_10_284 : VLk cn_10 284 ⟨"SteamNations$Seatings", "measure", "(LSteamNations$Room;I)V"⟩ prog_9_method_7_code 6 none 7 2 := ⟨rfl, gm_4 228 rfl rfl, gm_4 229 rfl rfl, gm_4 230 rfl rfl, gm_1 12 rfl rfl, gm_4 231 rfl rfl, ⟨by decide, by decide, by decide +kernel⟩, by decide⟩
theorem ml_10_288 : VLk cn_10 288 ⟨"SteamNations$Seatings", "fewestExchanges", "(LSteamNations$Room;)I"⟩ prog_9_method_8_code 2 (some .int) 7 1 := ⟨rfl, gm_5 9 rfl rfl, gm_5 10 rfl rfl, gm_5 11 rfl rfl, gm_1 12 rfl rfl, gm_5 12 rfl rfl, ⟨by decide, by decide, by decide +kernel⟩, by decide⟩
theorem ml_10_291 : VLk cn_10 291 ⟨"SteamNations$Seatings", "firstExchange", "(LSteamNations$Room;)I"⟩ prog_9_method_9_code 8 (some .int) 7 1 := ⟨rfl, gm_5 17 rfl rfl, gm_5 18 rfl rfl, gm_5 19 rfl rfl, gm_1 12 rfl rfl, gm_5 20 rfl rfl, ⟨by decide, by decide, by decide +kernel⟩, by decide⟩
theorem ml_10_297 : VLk cn_10 297 ⟨"SteamNations$House", "addSight", "(III)I"⟩ prog_3_method_7_code 4 (some .int) 1 3 := ⟨rfl, gm_5 25 rfl rfl, gm_5 26 rfl rfl, gm_5 27 rfl rfl, gm_1 8 rfl rfl, gm_5 28 rfl rfl, ⟨by decide, by decide, by decide +kernel⟩, by decide⟩
theorem ml_10_301 : VLk cn_10 301 ⟨"SteamNations$House", "latestSight", "()I"⟩ prog_3_method_11_code 3 (some .int) 1 0 := ⟨rfl, gm_5 37 rfl rfl, gm_5 38 rfl rfl, gm_5 39 rfl rfl, gm_1 8 rfl rfl, gm_5 40 rfl rfl, ⟨by decide, by decide, by decide +kernel⟩, by decide⟩
theorem ml_10_304 : VLk cn_10 304 ⟨"SteamNations$Seatings", "countSat", "(LSteamNations$House;)I"⟩ prog_9_method_10_code 4 (some .int) 7 1 := ⟨rfl, gm_5 46 rfl rfl, gm_5 47 rfl rfl, gm_5 48 rfl rfl, gm_1 12 rfl rfl, gm_5 49 rfl rfl, ⟨by decide, by decide, by decide +kernel⟩, by decide⟩
theorem ml_10_308 : VLk cn_10 308 ⟨"SteamNations$Seatings", "findSat", "(LSteamNations$House;I)I"⟩ prog_9_method_11_code 5 (some .int) 7 2 := ⟨rfl, gm_5 63 rfl rfl, gm_5 64 rfl rfl, gm_5 65 rfl rfl, gm_1 12 rfl rfl, gm_5 66 rfl rfl, ⟨by decide, by decide, by decide +kernel⟩, by decide⟩
theorem ml_10_312 : SLk cn_10 312 ⟨"java/lang/Math", "max", "(II)I"⟩ prog_16_method_65_code 2 (some .int) 2 := ⟨gm_5 71 rfl rfl, gm_2 231 rfl rfl, gm_1 14 rfl rfl, gm_2 232 rfl rfl, ⟨by decide, by decide, by decide +kernel⟩, by decide⟩
theorem ml_10_317 : VLk cn_10 317 ⟨"SteamNations$Seatings", "mostAlike", "(LSteamNations$House;II)I"⟩ prog_9_method_12_code 6 (some .int) 7 3 := ⟨rfl, gm_5 72 rfl rfl, gm_5 73 rfl rfl, gm_5 74 rfl rfl, gm_1 12 rfl rfl, gm_5 75 rfl rfl, ⟨by decide, by decide, by decide +kernel⟩, by decide⟩
theorem ml_10_321 : SLk cn_10 321 ⟨"java/lang/Integer", "bitCount", "(I)I"⟩ prog_15_method_49_code 1 (some .int) 1 := ⟨gm_5 82 rfl rfl, gm_5 83 rfl rfl, gm_1 20 rfl rfl, gm_5 84 rfl rfl, ⟨by decide, by decide, by decide +kernel⟩, by decide⟩
theorem ml_10_326 : VLk cn_10 326 ⟨"SteamNations$Room", "isTreaty", "(II)Z"⟩ prog_8_method_13_code 6 (some .boolean) 6 2 := ⟨rfl, gm_5 88 rfl rfl, gm_5 89 rfl rfl, gm_5 90 rfl rfl, gm_1 4 rfl rfl, gm_5 91 rfl rfl, ⟨by decide, by decide, by decide +kernel⟩, by decide⟩
theorem ml_10_329 : SLk cn_10 329 ⟨"java/util/Arrays", "fill", "([II)V"⟩ prog_21_method_103_code 4 none 2 := ⟨gm_5 101 rfl rfl, gm_4 84 rfl rfl, gm_1 19 rfl rfl, gm_4 85 rfl rfl, ⟨by decide, by decide, by decide +kernel⟩, by decide⟩
theorem ml_10_336 : VLk cn_10 336 ⟨"SteamNations", "spreadDrops", "(LSteamNations$Room;)V"⟩ prog_1_method_46_code 5 none 10 1 := ⟨rfl, gm_5 103 rfl rfl, gm_5 105 rfl rfl, gw_mem 48 (by decide +kernel) rfl, gm_1 1 rfl rfl, gm_5 106 rfl rfl, ⟨by decide, by decide, by decide +kernel⟩, by decide⟩
theorem ml_10_341 : SLk cn_10 341 ⟨"java/util/Arrays", "fill", "([JJ)V"⟩ prog_21_method_101_code 5 none 2 := ⟨gm_5 113 rfl rfl, gm_5 114 rfl rfl, gm_1 19 rfl rfl, gm_5 115 rfl rfl, ⟨by decide, by decide, by decide +kernel⟩, by decide⟩
theorem ml_10_348 : VLk cn_10 348 ⟨"SteamNations$House", "lawAt", "(I)LSteamNations$Text;"⟩ prog_3_method_4_code 2 (some (.object "SteamNations$Text")) 1 1 := ⟨rfl, gm_5 122 rfl rfl, gm_2 198 rfl rfl, gm_2 199 rfl rfl, gm_1 8 rfl rfl, gm_2 200 rfl rfl, ⟨by decide, by decide, by decide +kernel⟩, by decide⟩
theorem ml_10_352 : VLk cn_10 352 ⟨"SteamNations$Room", "contented", "()I"⟩ prog_8_method_10_code 3 (some .int) 6 0 := ⟨rfl, gm_5 123 rfl rfl, gm_4 38 rfl rfl, gm_4 39 rfl rfl, gm_1 4 rfl rfl, gm_4 40 rfl rfl, ⟨by decide, by decide, by decide +kernel⟩, by decide⟩
theorem ml_10_355 : SLk cn_10 355 ⟨"SteamNations", "nextDraw", "(I)I"⟩ prog_1_method_48_code 1 (some .int) 1 := ⟨gm_5 128 rfl rfl, gm_5 129 rfl rfl, gm_1 1 rfl rfl, gm_5 130 rfl rfl, ⟨by decide, by decide, by decide +kernel⟩, by decide⟩
theorem ml_10_358 : VLk cn_10 358 ⟨"SteamNations", "moveByDraw", "(III)V"⟩ prog_1_method_47_code 4 none 10 3 := ⟨rfl, gm_5 132 rfl rfl, gm_5 134 rfl rfl, gw_mem 49 (by decide +kernel) rfl, gm_1 1 rfl rfl, gm_5 135 rfl rfl, ⟨by decide, by decide, by decide +kernel⟩, by decide⟩
theorem ml_10_362 : VLk cn_10 362 ⟨"SteamNations$House", "copyFrom", "(LSteamNations$House;)V"⟩ prog_3_method_2_code 3 none 1 1 := ⟨rfl, gm_5 144 rfl rfl, gm_5 145 rfl rfl, gm_5 146 rfl rfl, gm_1 8 rfl rfl, gm_5 147 rfl rfl, ⟨by decide, by decide, by decide +kernel⟩, by decide⟩
theorem ml_10_365 : VLk cn_10 365 ⟨"SteamNations$Room", "countInside", "()I"⟩ prog_8_method_7_code 3 (some .int) 6 0 := ⟨rfl, gm_5 158 rfl rfl, gm_4 33 rfl rfl, gm_4 34 rfl rfl, gm_1 4 rfl rfl, gm_4 35 rfl rfl, ⟨by decide, by decide, by decide +kernel⟩, by decide⟩
theorem ml_10_371 : VLk cn_10 371 ⟨"SteamNations$Room", "allPartsOf", "(I)I"⟩ prog_8_method_11_code 4 (some .int) 6 1 := ⟨rfl, gm_5 159 rfl rfl, gm_5 160 rfl rfl, gm_5 161 rfl rfl, gm_1 4 rfl rfl, gm_5 162 rfl rfl, ⟨by decide, by decide, by decide +kernel⟩, by decide⟩
theorem ml_10_377 : VLk cn_10 377 ⟨"SteamNations$Seatings", "makeStale", "()V"⟩ prog_9_method_2_code 1 none 7 0 := ⟨rfl, gm_2 172 rfl rfl, gm_2 173 rfl rfl, gm_2 174 rfl rfl, gm_1 12 rfl rfl, gm_2 175 rfl rfl, ⟨by decide, by decide, by decide +kernel⟩, by decide⟩
theorem ml_10_387 : SLk cn_10 387 ⟨"SteamNations", "canBeParts", "(I)Z"⟩ prog_1_method_50_code 1 (some .boolean) 1 := ⟨gm_2 153 rfl rfl, gm_2 154 rfl rfl, gm_1 1 rfl rfl, gm_2 155 rfl rfl, ⟨by decide, by decide, by decide +kernel⟩, by decide⟩
theorem ml_10_390 : SLk cn_10 390 ⟨"java/lang/Math", "abs", "(I)I"⟩ prog_16_method_59_code 1 (some .int) 1 := ⟨gm_3 21 rfl rfl, gm_3 22 rfl rfl, gm_1 14 rfl rfl, gm_3 23 rfl rfl, ⟨by decide, by decide, by decide +kernel⟩, by decide⟩
theorem ml_0_48 : VLk cn_0 48 ⟨"SteamNations$Room", "copyFrom", "(LSteamNations$Room;)V"⟩ prog_8_method_2_code 2 none 6 1 := ⟨rfl, gm_4 18 rfl rfl, gm_4 19 rfl rfl, gm_4 20 rfl rfl, gm_1 4 rfl rfl, gm_4 21 rfl rfl, ⟨by decide, by decide, by decide +kernel⟩, by decide⟩
theorem ml_0_55 : VLk cn_0 55 ⟨"SteamNations$Past", "copyFrom", "(LSteamNations$Past;)V"⟩ prog_6_method_3_code 2 none 4 1 := ⟨rfl, gm_4 22 rfl rfl, gm_4 23 rfl rfl, gm_4 24 rfl rfl, gm_1 3 rfl rfl, gm_4 25 rfl rfl, ⟨by decide, by decide, by decide +kernel⟩, by decide⟩
theorem ml_0_69 : VLk cn_0 69 ⟨"SteamNations$Text", "markOf", "(II)I"⟩ prog_11_method_3_code 4 (some .int) 9 2 := ⟨rfl, gm_4 27 rfl rfl, gm_2 219 rfl rfl, gm_2 220 rfl rfl, gm_1 6 rfl rfl, gm_2 221 rfl rfl, ⟨by decide, by decide, by decide +kernel⟩, by decide⟩
theorem ml_0_73 : VLk cn_0 73 ⟨"SteamNations$Errands", "sayWords", "(LSteamNations$Room;)V"⟩ prog_2_method_4_code 3 none 0 1 := ⟨rfl, gm_4 28 rfl rfl, gm_4 30 rfl rfl, gw_mem 31 (by decide +kernel) rfl, gm_1 11 rfl rfl, gm_4 31 rfl rfl, ⟨by decide, by decide, by decide +kernel⟩, by decide⟩
theorem ml_0_76 : VLk cn_0 76 ⟨"SteamNations$Machine", "workOut", "(LSteamNations$Text;II)I"⟩ prog_4_method_2_code 9 (some .int) 2 3 := ⟨rfl, gm_4 47 rfl rfl, gm_2 223 rfl rfl, gm_2 224 rfl rfl, gm_1 7 rfl rfl, gm_2 225 rfl rfl, ⟨by decide, by decide, by decide +kernel⟩, by decide⟩
theorem ml_0_82 : VLk cn_0 82 ⟨"SteamNations$Errands", "canMove", "(LSteamNations$Text;I)Z"⟩ prog_2_method_3_code 6 (some .boolean) 0 2 := ⟨rfl, gm_4 48 rfl rfl, gm_4 50 rfl rfl, gw_mem 32 (by decide +kernel) rfl, gm_1 11 rfl rfl, gm_4 51 rfl rfl, ⟨by decide, by decide, by decide +kernel⟩, by decide⟩
theorem ml_0_87 : VLk cn_0 87 ⟨"SteamNations$Moves", "toSeat", "(II)I"⟩ prog_5_method_2_code 4 (some .int) 3 2 := ⟨rfl, gm_4 53 rfl rfl, gm_4 54 rfl rfl, gm_4 55 rfl rfl, gm_1 10 rfl rfl, gm_4 56 rfl rfl, ⟨by decide, by decide, by decide +kernel⟩, by decide⟩
theorem ml_0_90 : VLk cn_0 90 ⟨"SteamNations$Moves", "toSendOut", "(I)I"⟩ prog_5_method_3_code 4 (some .int) 3 1 := ⟨rfl, gm_4 65 rfl rfl, gm_4 66 rfl rfl, gm_4 67 rfl rfl, gm_1 10 rfl rfl, gm_4 68 rfl rfl, ⟨by decide, by decide, by decide +kernel⟩, by decide⟩
theorem ml_0_94 : VLk cn_0 94 ⟨"SteamNations$Moves", "toExchange", "(II)I"⟩ prog_5_method_4_code 5 (some .int) 3 2 := ⟨rfl, gm_4 70 rfl rfl, gm_4 71 rfl rfl, gm_4 72 rfl rfl, gm_1 10 rfl rfl, gm_4 73 rfl rfl, ⟨by decide, by decide, by decide +kernel⟩, by decide⟩
theorem ml_0_97 : VLk cn_0 97 ⟨"SteamNations$Moves", "toPassMinute", "()I"⟩ prog_5_method_5_code 2 (some .int) 3 0 := ⟨rfl, gm_4 74 rfl rfl, gm_4 75 rfl rfl, gm_4 76 rfl rfl, gm_1 10 rfl rfl, gm_4 77 rfl rfl, ⟨by decide, by decide, by decide +kernel⟩, by decide⟩
theorem ml_0_110 : VLk cn_0 110 ⟨"SteamNations$Room", "countInside", "()I"⟩ prog_8_method_7_code 3 (some .int) 6 0 := ⟨rfl, gm_4 32 rfl rfl, gm_4 33 rfl rfl, gm_4 34 rfl rfl, gm_1 4 rfl rfl, gm_4 35 rfl rfl, ⟨by decide, by decide, by decide +kernel⟩, by decide⟩
theorem ml_0_113 : VLk cn_0 113 ⟨"SteamNations$Room", "contented", "()I"⟩ prog_8_method_10_code 3 (some .int) 6 0 := ⟨rfl, gm_4 37 rfl rfl, gm_4 38 rfl rfl, gm_4 39 rfl rfl, gm_1 4 rfl rfl, gm_4 40 rfl rfl, ⟨by decide, by decide, by decide +kernel⟩, by decide⟩
theorem ml_0_116 : VLk cn_0 116 ⟨"SteamNations$Room", "nationOf", "(I)I"⟩ prog_8_method_8_code 4 (some .int) 6 1 := ⟨rfl, gm_4 42 rfl rfl, gm_2 185 rfl rfl, gm_2 186 rfl rfl, gm_1 4 rfl rfl, gm_2 187 rfl rfl, ⟨by decide, by decide, by decide +kernel⟩, by decide⟩
theorem ml_0_119 : VLk cn_0 119 ⟨"SteamNations$Room", "muchOf", "(I)I"⟩ prog_8_method_9_code 2 (some .int) 6 1 := ⟨rfl, gm_4 43 rfl rfl, gm_4 44 rfl rfl, gm_4 45 rfl rfl, gm_1 4 rfl rfl, gm_4 46 rfl rfl, ⟨by decide, by decide, by decide +kernel⟩, by decide⟩
theorem ml_1_36 : VLk cn_1 36 ⟨"SteamNations$Room", "copyFrom", "(LSteamNations$Room;)V"⟩ prog_8_method_2_code 2 none 6 1 := ⟨rfl, gm_5 148 rfl rfl, gm_4 19 rfl rfl, gm_4 20 rfl rfl, gm_1 4 rfl rfl, gm_4 21 rfl rfl, ⟨by decide, by decide, by decide +kernel⟩, by decide⟩
theorem ml_1_52 : VLk cn_1 52 ⟨"SteamNations$House", "hasLaw", "(I)Z"⟩ prog_3_method_3_code 2 (some .boolean) 1 1 := ⟨rfl, gm_2 201 rfl rfl, gm_2 202 rfl rfl, gm_2 203 rfl rfl, gm_1 8 rfl rfl, gm_2 204 rfl rfl, ⟨by decide, by decide, by decide +kernel⟩, by decide⟩
theorem ml_1_56 : VLk cn_1 56 ⟨"SteamNations$House", "lawAt", "(I)LSteamNations$Text;"⟩ prog_3_method_4_code 2 (some (.object "SteamNations$Text")) 1 1 := ⟨rfl, gm_2 197 rfl rfl, gm_2 198 rfl rfl, gm_2 199 rfl rfl, gm_1 8 rfl rfl, gm_2 200 rfl rfl, ⟨by decide, by decide, by decide +kernel⟩, by decide⟩
theorem ml_1_60 : VLk cn_1 60 ⟨"SteamNations$House", "sightMinutes", "(I)I"⟩ prog_3_method_9_code 2 (some .int) 1 1 := ⟨rfl, gm_5 41 rfl rfl, gm_5 42 rfl rfl, gm_5 43 rfl rfl, gm_1 8 rfl rfl, gm_5 44 rfl rfl, ⟨by decide, by decide, by decide +kernel⟩, by decide⟩
theorem ml_1_64 : SLk cn_1 64 ⟨"java/lang/Math", "max", "(II)I"⟩ prog_16_method_65_code 2 (some .int) 2 := ⟨gm_5 45 rfl rfl, gm_2 231 rfl rfl, gm_1 14 rfl rfl, gm_2 232 rfl rfl, ⟨by decide, by decide, by decide +kernel⟩, by decide⟩
theorem ml_2_22 : VLk cn_2 22 ⟨"SteamNations$Text", "markOf", "(II)I"⟩ prog_11_method_3_code 4 (some .int) 9 2 := ⟨rfl, gm_2 226 rfl rfl, gm_2 219 rfl rfl, gm_2 220 rfl rfl, gm_1 6 rfl rfl, gm_2 221 rfl rfl, ⟨by decide, by decide, by decide +kernel⟩, by decide⟩
theorem ml_2_31 : SLk cn_2 31 ⟨"java/lang/Math", "min", "(II)I"⟩ prog_16_method_69_code 2 (some .int) 2 := ⟨gm_2 227 rfl rfl, gm_2 228 rfl rfl, gm_1 14 rfl rfl, gm_2 229 rfl rfl, ⟨by decide, by decide, by decide +kernel⟩, by decide⟩
theorem ml_2_36 : SLk cn_2 36 ⟨"java/lang/Math", "max", "(II)I"⟩ prog_16_method_65_code 2 (some .int) 2 := ⟨gm_2 230 rfl rfl, gm_2 231 rfl rfl, gm_1 14 rfl rfl, gm_2 232 rfl rfl, ⟨by decide, by decide, by decide +kernel⟩, by decide⟩
theorem ml_2_40 : VLk cn_2 40 ⟨"SteamNations$Machine", "wordAt", "(I)I"⟩ prog_4_method_3_code 2 (some .int) 2 1 := ⟨rfl, gm_2 234 rfl rfl, gm_2 236 rfl rfl, gw_mem 3 (by decide +kernel) rfl, gm_1 7 rfl rfl, gm_2 237 rfl rfl, ⟨by decide, by decide, by decide +kernel⟩, by decide⟩
theorem ml_2_44 : SLk cn_2 44 ⟨"SteamNations$Machine", "join", "(III)I"⟩ prog_4_method_4_code 5 (some .int) 3 := ⟨gm_2 238 rfl rfl, gm_2 239 rfl rfl, gm_1 7 rfl rfl, gm_3 0 rfl rfl, ⟨by decide, by decide, by decide +kernel⟩, by decide⟩
theorem ml_3_29 : VLk cn_3 29 ⟨"SteamNations$Room", "has", "(I)Z"⟩ prog_8_method_4_code 2 (some .boolean) 6 1 := ⟨rfl, gm_4 57 rfl rfl, gm_2 181 rfl rfl, gm_2 182 rfl rfl, gm_1 4 rfl rfl, gm_2 183 rfl rfl, ⟨by decide, by decide, by decide +kernel⟩, by decide⟩
theorem ml_3_35 : VLk cn_3 35 ⟨"SteamNations$Room", "whoAt", "(I)I"⟩ prog_8_method_6_code 3 (some .int) 6 1 := ⟨rfl, gm_4 58 rfl rfl, gm_3 11 rfl rfl, gm_3 12 rfl rfl, gm_1 4 rfl rfl, gm_3 13 rfl rfl, ⟨by decide, by decide, by decide +kernel⟩, by decide⟩
theorem ml_3_39 : VLk cn_3 39 ⟨"SteamNations$Past", "keep", "(ILSteamNations$Room;)V"⟩ prog_6_method_4_code 4 none 4 2 := ⟨rfl, gm_4 59 rfl rfl, gm_4 60 rfl rfl, gm_4 61 rfl rfl, gm_1 3 rfl rfl, gm_4 62 rfl rfl, ⟨by decide, by decide, by decide +kernel⟩, by decide⟩
theorem ml_3_49 : VLk cn_3 49 ⟨"SteamNations$Room", "countInside", "()I"⟩ prog_8_method_7_code 3 (some .int) 6 0 := ⟨rfl, gm_4 64 rfl rfl, gm_4 33 rfl rfl, gm_4 34 rfl rfl, gm_1 4 rfl rfl, gm_4 35 rfl rfl, ⟨by decide, by decide, by decide +kernel⟩, by decide⟩
theorem ml_3_53 : VLk cn_3 53 ⟨"SteamNations$Room", "isInside", "(I)Z"⟩ prog_8_method_5_code 2 (some .boolean) 6 1 := ⟨rfl, gm_4 69 rfl rfl, gm_2 189 rfl rfl, gm_2 190 rfl rfl, gm_1 4 rfl rfl, gm_2 191 rfl rfl, ⟨by decide, by decide, by decide +kernel⟩, by decide⟩
theorem ml_3_59 : VLk cn_3 59 ⟨"SteamNations$House", "inForce", "()LSteamNations$Text;"⟩ prog_3_method_5_code 1 (some (.object "SteamNations$Text")) 1 0 := ⟨rfl, gm_4 78 rfl rfl, gm_2 194 rfl rfl, gm_2 195 rfl rfl, gm_1 8 rfl rfl, gm_2 196 rfl rfl, ⟨by decide, by decide, by decide +kernel⟩, by decide⟩
theorem ml_3_63 : VLk cn_3 63 ⟨"SteamNations$Steam", "passMinute", "(LSteamNations$Room;LSteamNations$Text;)V"⟩ prog_10_method_4_code 9 none 8 2 := ⟨rfl, gm_4 79 rfl rfl, gm_4 80 rfl rfl, gm_4 81 rfl rfl, gm_1 9 rfl rfl, gm_4 82 rfl rfl, ⟨by decide, by decide, by decide +kernel⟩, by decide⟩
theorem ml_4_39 : SLk cn_4 39 ⟨"java/lang/Math", "min", "(II)I"⟩ prog_16_method_69_code 2 (some .int) 2 := ⟨gm_4 63 rfl rfl, gm_2 228 rfl rfl, gm_1 14 rfl rfl, gm_2 229 rfl rfl, ⟨by decide, by decide, by decide +kernel⟩, by decide⟩
theorem ml_5_45 : SLk cn_5 45 ⟨"java/lang/Math", "min", "(II)I"⟩ prog_16_method_69_code 2 (some .int) 2 := ⟨gm_3 73 rfl rfl, gm_2 228 rfl rfl, gm_1 14 rfl rfl, gm_2 229 rfl rfl, ⟨by decide, by decide, by decide +kernel⟩, by decide⟩
theorem ml_5_51 : VLk cn_5 51 ⟨"SteamNations$Reader", "cut", "([II)V"⟩ prog_7_method_3_code 6 none 5 2 := ⟨rfl, gm_3 74 rfl rfl, gm_3 76 rfl rfl, gw_mem 7 (by decide +kernel) rfl, gm_1 2 rfl rfl, gm_3 77 rfl rfl, ⟨by decide, by decide, by decide +kernel⟩, by decide⟩
theorem ml_5_58 : VLk cn_5 58 ⟨"SteamNations$Reader", "goOn", "()V"⟩ prog_7_method_26_code 1 none 5 0 := ⟨rfl, gm_3 139 rfl rfl, gm_3 141 rfl rfl, gw_mem 8 (by decide +kernel) rfl, gm_1 2 rfl rfl, gm_3 142 rfl rfl, ⟨by decide, by decide, by decide +kernel⟩, by decide⟩
theorem ml_5_61 : VLk cn_5 61 ⟨"SteamNations$Reader", "readOrder", "(I)Z"⟩ prog_7_method_9_code 3 (some .boolean) 5 1 := ⟨rfl, gm_3 143 rfl rfl, gm_3 145 rfl rfl, gw_mem 9 (by decide +kernel) rfl, gm_1 2 rfl rfl, gm_3 146 rfl rfl, ⟨by decide, by decide, by decide +kernel⟩, by decide⟩
theorem ml_5_65 : VLk cn_5 65 ⟨"SteamNations$Reader", "readRule", "(I)Z"⟩ prog_7_method_8_code 4 (some .boolean) 5 1 := ⟨rfl, gm_3 203 rfl rfl, gm_3 205 rfl rfl, gw_mem 24 (by decide +kernel) rfl, gm_1 2 rfl rfl, gm_3 206 rfl rfl, ⟨by decide, by decide, by decide +kernel⟩, by decide⟩
theorem ml_5_68 : VLk cn_5 68 ⟨"SteamNations$Reader", "readIf", "(I)Z"⟩ prog_7_method_11_code 3 (some .boolean) 5 1 := ⟨rfl, gm_3 207 rfl rfl, gm_3 209 rfl rfl, gw_mem 25 (by decide +kernel) rfl, gm_1 2 rfl rfl, gm_3 210 rfl rfl, ⟨by decide, by decide, by decide +kernel⟩, by decide⟩
theorem ml_5_74 : SLk cn_5 74 ⟨"java/util/Arrays", "copyOf", "([II)[I"⟩ prog_21_method_123_code 3 (some (.array .int)) 2 := ⟨gm_3 232 rfl rfl, gm_3 233 rfl rfl, gm_1 19 rfl rfl, gm_3 234 rfl rfl, ⟨by decide, by decide, by decide +kernel⟩, by decide⟩
theorem ml_5_83 : VLk cn_5 83 ⟨"SteamNations$Reader", "takeSign", "(C)Z"⟩ prog_7_method_22_code 2 (some .boolean) 5 1 := ⟨rfl, gm_3 175 rfl rfl, gm_3 177 rfl rfl, gw_mem 17 (by decide +kernel) rfl, gm_1 2 rfl rfl, gm_3 178 rfl rfl, ⟨by decide, by decide, by decide +kernel⟩, by decide⟩
theorem ml_5_87 : VLk cn_5 87 ⟨"SteamNations$Reader", "wrong", "()Z"⟩ prog_7_method_27_code 1 (some .boolean) 5 0 := ⟨rfl, gm_3 147 rfl rfl, gm_3 149 rfl rfl, gw_mem 10 (by decide +kernel) rfl, gm_1 2 rfl rfl, gm_3 150 rfl rfl, ⟨by decide, by decide, by decide +kernel⟩, by decide⟩
theorem ml_5_91 : SLk cn_5 91 ⟨"SteamNations$Reader", "isLetter", "(I)Z"⟩ prog_7_method_4_code 1 (some .boolean) 1 := ⟨gm_3 78 rfl rfl, gm_3 79 rfl rfl, gm_1 2 rfl rfl, gm_3 80 rfl rfl, ⟨by decide, by decide, by decide +kernel⟩, by decide⟩
theorem ml_5_94 : SLk cn_5 94 ⟨"SteamNations$Reader", "wordNumber", "([III)I"⟩ prog_7_method_6_code 8 (some .int) 3 := ⟨gm_3 81 rfl rfl, gm_3 82 rfl rfl, gm_1 2 rfl rfl, gm_3 83 rfl rfl, ⟨by decide, by decide, by decide +kernel⟩, by decide⟩
theorem ml_5_98 : SLk cn_5 98 ⟨"SteamNations$Reader", "isDigit", "(I)Z"⟩ prog_7_method_5_code 1 (some .boolean) 1 := ⟨gm_3 133 rfl rfl, gm_3 134 rfl rfl, gm_1 2 rfl rfl, gm_3 135 rfl rfl, ⟨by decide, by decide, by decide +kernel⟩, by decide⟩
theorem ml_5_101 : SLk cn_5 101 ⟨"SteamNations$Reader", "valueOf", "([III)I"⟩ prog_7_method_7_code 5 (some .int) 3 := ⟨gm_3 136 rfl rfl, gm_3 137 rfl rfl, gm_1 2 rfl rfl, gm_3 138 rfl rfl, ⟨by decide, by decide, by decide +kernel⟩, by decide⟩
theorem ml_5_116 : VLk cn_5 116 ⟨"SteamNations$Reader", "mark", "(III)V"⟩ prog_7_method_30_code 5 none 5 3 := ⟨rfl, gm_3 151 rfl rfl, gm_3 153 rfl rfl, gw_mem 11 (by decide +kernel) rfl, gm_1 2 rfl rfl, gm_3 154 rfl rfl, ⟨by decide, by decide, by decide +kernel⟩, by decide⟩
theorem ml_5_120 : VLk cn_5 120 ⟨"SteamNations$Reader", "readSum", "(I)Z"⟩ prog_7_method_16_code 5 (some .boolean) 5 1 := ⟨rfl, gm_3 155 rfl rfl, gm_3 157 rfl rfl, gw_mem 12 (by decide +kernel) rfl, gm_1 2 rfl rfl, gm_3 158 rfl rfl, ⟨by decide, by decide, by decide +kernel⟩, by decide⟩
theorem ml_5_123 : VLk cn_5 123 ⟨"SteamNations$Reader", "takeIf", "(I)Z"⟩ prog_7_method_23_code 2 (some .boolean) 5 1 := ⟨rfl, gm_3 195 rfl rfl, gm_3 197 rfl rfl, gw_mem 22 (by decide +kernel) rfl, gm_1 2 rfl rfl, gm_3 198 rfl rfl, ⟨by decide, by decide, by decide +kernel⟩, by decide⟩
theorem ml_5_126 : VLk cn_5 126 ⟨"SteamNations$Reader", "readTimes", "(I)Z"⟩ prog_7_method_10_code 3 (some .boolean) 5 1 := ⟨rfl, gm_3 199 rfl rfl, gm_3 201 rfl rfl, gw_mem 23 (by decide +kernel) rfl, gm_1 2 rfl rfl, gm_3 202 rfl rfl, ⟨by decide, by decide, by decide +kernel⟩, by decide⟩
theorem ml_5_129 : VLk cn_5 129 ⟨"SteamNations$Reader", "numberHere", "()I"⟩ prog_7_method_25_code 1 (some .int) 5 0 := ⟨rfl, gm_3 179 rfl rfl, gm_3 181 rfl rfl, gw_mem 18 (by decide +kernel) rfl, gm_1 2 rfl rfl, gm_3 182 rfl rfl, ⟨by decide, by decide, by decide +kernel⟩, by decide⟩
theorem ml_5_132 : VLk cn_5 132 ⟨"SteamNations$Reader", "readTest", "(I)Z"⟩ prog_7_method_12_code 5 (some .boolean) 5 1 := ⟨rfl, gm_3 211 rfl rfl, gm_3 213 rfl rfl, gw_mem 26 (by decide +kernel) rfl, gm_1 2 rfl rfl, gm_3 214 rfl rfl, ⟨by decide, by decide, by decide +kernel⟩, by decide⟩
theorem ml_5_135 : VLk cn_5 135 ⟨"SteamNations$Reader", "readBoth", "(I)Z"⟩ prog_7_method_13_code 5 (some .boolean) 5 1 := ⟨rfl, gm_3 215 rfl rfl, gm_3 217 rfl rfl, gw_mem 27 (by decide +kernel) rfl, gm_1 2 rfl rfl, gm_3 218 rfl rfl, ⟨by decide, by decide, by decide +kernel⟩, by decide⟩
theorem ml_5_138 : VLk cn_5 138 ⟨"SteamNations$Reader", "put", "(II)I"⟩ prog_7_method_28_code 3 (some .int) 5 2 := ⟨rfl, gm_3 187 rfl rfl, gm_3 189 rfl rfl, gw_mem 20 (by decide +kernel) rfl, gm_1 2 rfl rfl, gm_3 190 rfl rfl, ⟨by decide, by decide, by decide +kernel⟩, by decide⟩
theorem ml_5_141 : VLk cn_5 141 ⟨"SteamNations$Reader", "land", "(I)V"⟩ prog_7_method_29_code 2 none 5 1 := ⟨rfl, gm_3 227 rfl rfl, gm_3 229 rfl rfl, gw_mem 30 (by decide +kernel) rfl, gm_1 2 rfl rfl, gm_3 230 rfl rfl, ⟨by decide, by decide, by decide +kernel⟩, by decide⟩
theorem ml_5_145 : VLk cn_5 145 ⟨"SteamNations$Reader", "readPlain", "(I)Z"⟩ prog_7_method_14_code 4 (some .boolean) 5 1 := ⟨rfl, gm_3 219 rfl rfl, gm_3 221 rfl rfl, gw_mem 28 (by decide +kernel) rfl, gm_1 2 rfl rfl, gm_3 222 rfl rfl, ⟨by decide, by decide, by decide +kernel⟩, by decide⟩
theorem ml_5_148 : VLk cn_5 148 ⟨"SteamNations$Reader", "isSign", "(C)Z"⟩ prog_7_method_24_code 2 (some .boolean) 5 1 := ⟨rfl, gm_3 167 rfl rfl, gm_3 169 rfl rfl, gw_mem 15 (by decide +kernel) rfl, gm_1 2 rfl rfl, gm_3 170 rfl rfl, ⟨by decide, by decide, by decide +kernel⟩, by decide⟩
theorem ml_5_151 : VLk cn_5 151 ⟨"SteamNations$Reader", "canOpen", "(I)Z"⟩ prog_7_method_21_code 2 (some .boolean) 5 1 := ⟨rfl, gm_3 171 rfl rfl, gm_3 173 rfl rfl, gw_mem 16 (by decide +kernel) rfl, gm_1 2 rfl rfl, gm_3 174 rfl rfl, ⟨by decide, by decide, by decide +kernel⟩, by decide⟩
theorem ml_5_154 : VLk cn_5 154 ⟨"SteamNations$Reader", "readComparison", "(I)Z"⟩ prog_7_method_15_code 4 (some .boolean) 5 1 := ⟨rfl, gm_3 223 rfl rfl, gm_3 225 rfl rfl, gw_mem 29 (by decide +kernel) rfl, gm_1 2 rfl rfl, gm_3 226 rfl rfl, ⟨by decide, by decide, by decide +kernel⟩, by decide⟩
theorem ml_5_157 : VLk cn_5 157 ⟨"SteamNations$Reader", "readTerm", "(I)Z"⟩ prog_7_method_17_code 5 (some .boolean) 5 1 := ⟨rfl, gm_3 159 rfl rfl, gm_3 161 rfl rfl, gw_mem 13 (by decide +kernel) rfl, gm_1 2 rfl rfl, gm_3 162 rfl rfl, ⟨by decide, by decide, by decide +kernel⟩, by decide⟩
theorem ml_5_160 : VLk cn_5 160 ⟨"SteamNations$Reader", "readPart", "(I)Z"⟩ prog_7_method_18_code 3 (some .boolean) 5 1 := ⟨rfl, gm_3 163 rfl rfl, gm_3 165 rfl rfl, gw_mem 14 (by decide +kernel) rfl, gm_1 2 rfl rfl, gm_3 166 rfl rfl, ⟨by decide, by decide, by decide +kernel⟩, by decide⟩
theorem ml_5_163 : VLk cn_5 163 ⟨"SteamNations$Reader", "readOrdersWord", "()Z"⟩ prog_7_method_20_code 4 (some .boolean) 5 0 := ⟨rfl, gm_3 183 rfl rfl, gm_3 185 rfl rfl, gw_mem 19 (by decide +kernel) rfl, gm_1 2 rfl rfl, gm_3 186 rfl rfl, ⟨by decide, by decide, by decide +kernel⟩, by decide⟩
theorem ml_5_166 : VLk cn_5 166 ⟨"SteamNations$Reader", "readLawWord", "()Z"⟩ prog_7_method_19_code 1 (some .boolean) 5 0 := ⟨rfl, gm_3 191 rfl rfl, gm_3 193 rfl rfl, gw_mem 21 (by decide +kernel) rfl, gm_1 2 rfl rfl, gm_3 194 rfl rfl, ⟨by decide, by decide, by decide +kernel⟩, by decide⟩
theorem ml_6_37 : VLk cn_6 37 ⟨"SteamNations$Room", "has", "(I)Z"⟩ prog_8_method_4_code 2 (some .boolean) 6 1 := ⟨rfl, gm_2 192 rfl rfl, gm_2 181 rfl rfl, gm_2 182 rfl rfl, gm_1 4 rfl rfl, gm_2 183 rfl rfl, ⟨by decide, by decide, by decide +kernel⟩, by decide⟩
theorem ml_6_41 : NLk cn_6 41 ⟨"SteamNations", "oneIf", "(Z)I"⟩ prog_1_method_54_code 1 (some .int) 1 := ⟨by decide, gm_3 4 rfl rfl, gm_1 1 rfl rfl, gm_3 5 rfl rfl, ⟨by decide, by decide, by decide +kernel⟩, by decide⟩
theorem ml_6_45 : VLk cn_6 45 ⟨"SteamNations$Room", "nationOf", "(I)I"⟩ prog_8_method_8_code 4 (some .int) 6 1 := ⟨rfl, gm_4 41 rfl rfl, gm_2 185 rfl rfl, gm_2 186 rfl rfl, gm_1 4 rfl rfl, gm_2 187 rfl rfl, ⟨by decide, by decide, by decide +kernel⟩, by decide⟩
theorem ml_6_49 : VLk cn_6 49 ⟨"SteamNations$Room", "inCommon", "(II)I"⟩ prog_8_method_14_code 5 (some .int) 6 2 := ⟨rfl, gm_5 92 rfl rfl, gm_5 94 rfl rfl, gw_mem 47 (by decide +kernel) rfl, gm_1 4 rfl rfl, gm_5 95 rfl rfl, ⟨by decide, by decide, by decide +kernel⟩, by decide⟩
theorem ml_6_53 : SLk cn_6 53 ⟨"java/lang/Math", "min", "(II)I"⟩ prog_16_method_69_code 2 (some .int) 2 := ⟨gm_5 96 rfl rfl, gm_2 228 rfl rfl, gm_1 14 rfl rfl, gm_2 229 rfl rfl, ⟨by decide, by decide, by decide +kernel⟩, by decide⟩
theorem ml_7_51 : VLk cn_7 51 ⟨"SteamNations$Seatings", "listInside", "(LSteamNations$Room;)V"⟩ prog_9_method_14_code 4 none 7 1 := ⟨rfl, gm_4 175 rfl rfl, gm_4 177 rfl rfl, gw_mem 36 (by decide +kernel) rfl, gm_1 12 rfl rfl, gm_4 178 rfl rfl, ⟨by decide, by decide, by decide +kernel⟩, by decide⟩
theorem ml_7_55 : VLk cn_7 55 ⟨"SteamNations$Seatings", "playSeating", "(LSteamNations$Room;LSteamNations$Text;II)V"⟩ prog_9_method_15_code 8 none 7 4 := ⟨rfl, gm_4 181 rfl rfl, gm_4 183 rfl rfl, gw_mem 37 (by decide +kernel) rfl, gm_1 12 rfl rfl, gm_4 184 rfl rfl, ⟨by decide, by decide, by decide +kernel⟩, by decide⟩
theorem ml_7_59 : VLk cn_7 59 ⟨"SteamNations$Seatings", "toNextOrder", "()Z"⟩ prog_9_method_16_code 5 (some .boolean) 7 0 := ⟨rfl, gm_4 191 rfl rfl, gm_4 193 rfl rfl, gw_mem 38 (by decide +kernel) rfl, gm_1 12 rfl rfl, gm_4 194 rfl rfl, ⟨by decide, by decide, by decide +kernel⟩, by decide⟩
theorem ml_7_63 : VLk cn_7 63 ⟨"SteamNations$Seatings", "isSeating", "(I)Z"⟩ prog_9_method_26_code 2 (some .boolean) 7 1 := ⟨rfl, gm_4 217 rfl rfl, gm_4 219 rfl rfl, gw_mem 41 (by decide +kernel) rfl, gm_1 12 rfl rfl, gm_4 220 rfl rfl, ⟨by decide, by decide, by decide +kernel⟩, by decide⟩
theorem ml_7_67 : SLk cn_7 67 ⟨"SteamNations$Seatings", "seatOfRow", "(II)I"⟩ prog_9_method_24_code 3 (some .int) 2 := ⟨gm_4 221 rfl rfl, gm_4 222 rfl rfl, gm_1 12 rfl rfl, gm_4 223 rfl rfl, ⟨by decide, by decide, by decide +kernel⟩, by decide⟩
theorem ml_7_74 : VLk cn_7 74 ⟨"SteamNations$Seatings", "nationIn", "(III)I"⟩ prog_9_method_25_code 5 (some .int) 7 3 := ⟨rfl, gm_4 207 rfl rfl, gm_4 209 rfl rfl, gw_mem 40 (by decide +kernel) rfl, gm_1 12 rfl rfl, gm_4 210 rfl rfl, ⟨by decide, by decide, by decide +kernel⟩, by decide⟩
theorem ml_7_81 : NLk cn_7 81 ⟨"SteamNations", "oneIf", "(Z)I"⟩ prog_1_method_54_code 1 (some .int) 1 := ⟨by decide, gm_3 4 rfl rfl, gm_1 1 rfl rfl, gm_3 5 rfl rfl, ⟨by decide, by decide, by decide +kernel⟩, by decide⟩
theorem ml_7_85 : VLk cn_7 85 ⟨"SteamNations$Seatings", "contentedIn", "(LSteamNations$Room;II)I"⟩ prog_9_method_5_code 6 (some .int) 7 3 := ⟨rfl, gm_4 203 rfl rfl, gm_4 204 rfl rfl, gm_4 205 rfl rfl, gm_1 12 rfl rfl, gm_4 206 rfl rfl, ⟨by decide, by decide, by decide +kernel⟩, by decide⟩
theorem ml_7_89 : VLk cn_7 89 ⟨"SteamNations$Seatings", "bestAt", "(LSteamNations$Room;I)I"⟩ prog_9_method_6_code 7 (some .int) 7 2 := ⟨rfl, gm_4 232 rfl rfl, gm_4 200 rfl rfl, gm_4 201 rfl rfl, gm_1 12 rfl rfl, gm_4 202 rfl rfl, ⟨by decide, by decide, by decide +kernel⟩, by decide⟩
theorem ml_7_93 : VLk cn_7 93 ⟨"SteamNations$Seatings", "reachFrom", "(II)I"⟩ prog_9_method_18_code 7 (some .int) 7 2 := ⟨rfl, gm_4 233 rfl rfl, gm_4 235 rfl rfl, gw_mem 42 (by decide +kernel) rfl, gm_1 12 rfl rfl, gm_4 236 rfl rfl, ⟨by decide, by decide, by decide +kernel⟩, by decide⟩
theorem ml_7_96 : SLk cn_7 96 ⟨"SteamNations$Seatings", "rowOf", "(LSteamNations$Room;)I"⟩ prog_9_method_23_code 3 (some .int) 1 := ⟨gm_4 186 rfl rfl, gm_4 187 rfl rfl, gm_1 12 rfl rfl, gm_4 188 rfl rfl, ⟨by decide, by decide, by decide +kernel⟩, by decide⟩
theorem ml_7_100 : VLk cn_7 100 ⟨"SteamNations$Seatings", "farOf", "(I)I"⟩ prog_9_method_21_code 3 (some .int) 7 1 := ⟨rfl, gm_5 13 rfl rfl, gm_5 15 rfl rfl, gw_mem 45 (by decide +kernel) rfl, gm_1 12 rfl rfl, gm_5 16 rfl rfl, ⟨by decide, by decide, by decide +kernel⟩, by decide⟩
theorem ml_7_107 : VLk cn_7 107 ⟨"SteamNations$Seatings", "canExchange", "(III)Z"⟩ prog_9_method_19_code 4 (some .boolean) 7 3 := ⟨rfl, gm_4 237 rfl rfl, gm_4 239 rfl rfl, gw_mem 43 (by decide +kernel) rfl, gm_1 12 rfl rfl, gm_5 0 rfl rfl, ⟨by decide, by decide, by decide +kernel⟩, by decide⟩
theorem ml_7_111 : SLk cn_7 111 ⟨"SteamNations$Seatings", "exchanged", "(III)I"⟩ prog_9_method_20_code 4 (some .int) 3 := ⟨gm_5 2 rfl rfl, gm_5 3 rfl rfl, gm_1 12 rfl rfl, gm_5 4 rfl rfl, ⟨by decide, by decide, by decide +kernel⟩, by decide⟩
theorem ml_7_114 : VLk cn_7 114 ⟨"SteamNations$Seatings", "fits", "(LSteamNations$House;I)Z"⟩ prog_9_method_13_code 4 (some .boolean) 7 2 := ⟨rfl, gm_5 50 rfl rfl, gm_5 52 rfl rfl, gw_mem 46 (by decide +kernel) rfl, gm_1 12 rfl rfl, gm_5 53 rfl rfl, ⟨by decide, by decide, by decide +kernel⟩, by decide⟩
theorem ml_7_118 : SLk cn_7 118 ⟨"java/util/Arrays", "fill", "([II)V"⟩ prog_21_method_103_code 4 none 2 := ⟨gm_5 76 rfl rfl, gm_4 84 rfl rfl, gm_1 19 rfl rfl, gm_4 85 rfl rfl, ⟨by decide, by decide, by decide +kernel⟩, by decide⟩
theorem ml_7_124 : SLk cn_7 124 ⟨"java/lang/Math", "max", "(II)I"⟩ prog_16_method_65_code 2 (some .int) 2 := ⟨gm_5 77 rfl rfl, gm_2 231 rfl rfl, gm_1 14 rfl rfl, gm_2 232 rfl rfl, ⟨by decide, by decide, by decide +kernel⟩, by decide⟩
theorem ml_7_134 : VLk cn_7 134 ⟨"SteamNations$House", "sightMinutes", "(I)I"⟩ prog_3_method_9_code 2 (some .int) 1 1 := ⟨rfl, gm_5 54 rfl rfl, gm_5 42 rfl rfl, gm_5 43 rfl rfl, gm_1 8 rfl rfl, gm_5 44 rfl rfl, ⟨by decide, by decide, by decide +kernel⟩, by decide⟩
theorem ml_7_137 : VLk cn_7 137 ⟨"SteamNations$House", "sightSitter", "(I)I"⟩ prog_3_method_8_code 2 (some .int) 1 1 := ⟨rfl, gm_5 55 rfl rfl, gm_5 56 rfl rfl, gm_5 57 rfl rfl, gm_1 8 rfl rfl, gm_5 58 rfl rfl, ⟨by decide, by decide, by decide +kernel⟩, by decide⟩
theorem ml_7_140 : VLk cn_7 140 ⟨"SteamNations$House", "sightNation", "(I)I"⟩ prog_3_method_10_code 2 (some .int) 1 1 := ⟨rfl, gm_5 59 rfl rfl, gm_5 60 rfl rfl, gm_5 61 rfl rfl, gm_1 8 rfl rfl, gm_5 62 rfl rfl, ⟨by decide, by decide, by decide +kernel⟩, by decide⟩
theorem ml_7_143 : VLk cn_7 143 ⟨"SteamNations$Room", "isInside", "(I)Z"⟩ prog_8_method_5_code 2 (some .boolean) 6 1 := ⟨rfl, gm_4 179 rfl rfl, gm_2 189 rfl rfl, gm_2 190 rfl rfl, gm_1 4 rfl rfl, gm_2 191 rfl rfl, ⟨by decide, by decide, by decide +kernel⟩, by decide⟩
theorem ml_7_146 : VLk cn_7 146 ⟨"SteamNations$Room", "whoAt", "(I)I"⟩ prog_8_method_6_code 3 (some .int) 6 1 := ⟨rfl, gm_4 180 rfl rfl, gm_3 11 rfl rfl, gm_3 12 rfl rfl, gm_1 4 rfl rfl, gm_3 13 rfl rfl, ⟨by decide, by decide, by decide +kernel⟩, by decide⟩
theorem ml_7_149 : VLk cn_7 149 ⟨"SteamNations$Room", "copyFrom", "(LSteamNations$Room;)V"⟩ prog_8_method_2_code 2 none 6 1 := ⟨rfl, gm_4 185 rfl rfl, gm_4 19 rfl rfl, gm_4 20 rfl rfl, gm_1 4 rfl rfl, gm_4 21 rfl rfl, ⟨by decide, by decide, by decide +kernel⟩, by decide⟩
theorem ml_7_155 : VLk cn_7 155 ⟨"SteamNations$Steam", "passMinute", "(LSteamNations$Room;LSteamNations$Text;)V"⟩ prog_10_method_4_code 9 none 8 2 := ⟨rfl, gm_4 189 rfl rfl, gm_4 80 rfl rfl, gm_4 81 rfl rfl, gm_1 9 rfl rfl, gm_4 82 rfl rfl, ⟨by decide, by decide, by decide +kernel⟩, by decide⟩
theorem ml_7_161 : VLk cn_7 161 ⟨"SteamNations$Room", "nationOf", "(I)I"⟩ prog_8_method_8_code 4 (some .int) 6 1 := ⟨rfl, gm_4 190 rfl rfl, gm_2 185 rfl rfl, gm_2 186 rfl rfl, gm_1 4 rfl rfl, gm_2 187 rfl rfl, ⟨by decide, by decide, by decide +kernel⟩, by decide⟩
theorem ml_7_164 : VLk cn_7 164 ⟨"SteamNations$Seatings", "exchangePlaces", "(II)V"⟩ prog_9_method_17_code 4 none 7 2 := ⟨rfl, gm_4 195 rfl rfl, gm_4 197 rfl rfl, gw_mem 39 (by decide +kernel) rfl, gm_1 12 rfl rfl, gm_4 198 rfl rfl, ⟨by decide, by decide, by decide +kernel⟩, by decide⟩
theorem ml_7_168 : VLk cn_7 168 ⟨"SteamNations$Seatings", "rankOf", "(I)I"⟩ prog_9_method_22_code 6 (some .int) 7 1 := ⟨rfl, gm_5 5 rfl rfl, gm_5 7 rfl rfl, gw_mem 44 (by decide +kernel) rfl, gm_1 12 rfl rfl, gm_5 8 rfl rfl, ⟨by decide, by decide, by decide +kernel⟩, by decide⟩
theorem ml_7_171 : NLk cn_7 171 ⟨"SteamNations", "areBeside", "(II)Z"⟩ prog_1_method_53_code 4 (some .boolean) 2 := ⟨by decide, gm_3 19 rfl rfl, gm_1 1 rfl rfl, gm_3 20 rfl rfl, ⟨by decide, by decide, by decide +kernel⟩, by decide⟩
theorem ml_8_22 : VLk cn_8 22 ⟨"SteamNations$Text", "hasKind", "(I)Z"⟩ prog_11_method_2_code 2 (some .boolean) 9 1 := ⟨rfl, gm_2 209 rfl rfl, gm_2 210 rfl rfl, gm_2 211 rfl rfl, gm_1 6 rfl rfl, gm_2 212 rfl rfl, ⟨by decide, by decide, by decide +kernel⟩, by decide⟩
theorem ml_8_28 : VLk cn_8 28 ⟨"SteamNations$Steam", "sayWords", "(LSteamNations$Room;II)V"⟩ prog_10_method_7_code 5 none 8 3 := ⟨rfl, gm_2 213 rfl rfl, gm_2 215 rfl rfl, gw_mem 2 (by decide +kernel) rfl, gm_1 9 rfl rfl, gm_2 216 rfl rfl, ⟨by decide, by decide, by decide +kernel⟩, by decide⟩
theorem ml_8_36 : VLk cn_8 36 ⟨"SteamNations$Text", "markOf", "(II)I"⟩ prog_11_method_3_code 4 (some .int) 9 2 := ⟨rfl, gm_2 218 rfl rfl, gm_2 219 rfl rfl, gm_2 220 rfl rfl, gm_1 6 rfl rfl, gm_2 221 rfl rfl, ⟨by decide, by decide, by decide +kernel⟩, by decide⟩
theorem ml_8_40 : VLk cn_8 40 ⟨"SteamNations$Machine", "workOut", "(LSteamNations$Text;II)I"⟩ prog_4_method_2_code 9 (some .int) 2 3 := ⟨rfl, gm_2 222 rfl rfl, gm_2 223 rfl rfl, gm_2 224 rfl rfl, gm_1 7 rfl rfl, gm_2 225 rfl rfl, ⟨by decide, by decide, by decide +kernel⟩, by decide⟩
theorem ml_8_48 : VLk cn_8 48 ⟨"SteamNations$Room", "nationOf", "(I)I"⟩ prog_8_method_8_code 4 (some .int) 6 1 := ⟨rfl, gm_2 217 rfl rfl, gm_2 185 rfl rfl, gm_2 186 rfl rfl, gm_1 4 rfl rfl, gm_2 187 rfl rfl, ⟨by decide, by decide, by decide +kernel⟩, by decide⟩
theorem ml_8_55 : SLk cn_8 55 ⟨"java/lang/Math", "min", "(II)I"⟩ prog_16_method_69_code 2 (some .int) 2 := ⟨gm_3 29 rfl rfl, gm_2 228 rfl rfl, gm_1 14 rfl rfl, gm_2 229 rfl rfl, ⟨by decide, by decide, by decide +kernel⟩, by decide⟩
theorem ml_8_60 : SLk cn_8 60 ⟨"java/lang/Math", "max", "(II)I"⟩ prog_16_method_65_code 2 (some .int) 2 := ⟨gm_3 30 rfl rfl, gm_2 231 rfl rfl, gm_1 14 rfl rfl, gm_2 232 rfl rfl, ⟨by decide, by decide, by decide +kernel⟩, by decide⟩
theorem ml_8_63 : SLk cn_8 63 ⟨"java/util/Arrays", "fill", "([II)V"⟩ prog_21_method_103_code 4 none 2 := ⟨gm_4 83 rfl rfl, gm_4 84 rfl rfl, gm_1 19 rfl rfl, gm_4 85 rfl rfl, ⟨by decide, by decide, by decide +kernel⟩, by decide⟩
theorem ml_8_69 : VLk cn_8 69 ⟨"SteamNations$Steam", "seeWho", "(LSteamNations$Room;)V"⟩ prog_10_method_5_code 4 none 8 1 := ⟨rfl, gm_4 86 rfl rfl, gm_4 88 rfl rfl, gw_mem 33 (by decide +kernel) rfl, gm_1 9 rfl rfl, gm_4 89 rfl rfl, ⟨by decide, by decide, by decide +kernel⟩, by decide⟩
theorem ml_8_79 : VLk cn_8 79 ⟨"SteamNations$Steam", "anyHolds", "(LSteamNations$Room;LSteamNations$Text;II)Z"⟩ prog_10_method_2_code 6 (some .boolean) 8 4 := ⟨rfl, gm_4 90 rfl rfl, gm_2 206 rfl rfl, gm_2 207 rfl rfl, gm_1 9 rfl rfl, gm_2 208 rfl rfl, ⟨by decide, by decide, by decide +kernel⟩, by decide⟩
theorem ml_8_86 : VLk cn_8 86 ⟨"SteamNations$Steam", "whoBeside", "(II)I"⟩ prog_10_method_6_code 4 (some .int) 8 2 := ⟨rfl, gm_4 91 rfl rfl, gm_4 93 rfl rfl, gw_mem 34 (by decide +kernel) rfl, gm_1 9 rfl rfl, gm_4 94 rfl rfl, ⟨by decide, by decide, by decide +kernel⟩, by decide⟩
theorem ml_8_89 : VLk cn_8 89 ⟨"SteamNations$Steam", "partsTold", "(LSteamNations$Room;LSteamNations$Text;II)I"⟩ prog_10_method_3_code 7 (some .int) 8 4 := ⟨rfl, gm_4 97 rfl rfl, gm_3 25 rfl rfl, gm_3 26 rfl rfl, gm_1 9 rfl rfl, gm_3 27 rfl rfl, ⟨by decide, by decide, by decide +kernel⟩, by decide⟩
theorem ml_L_13 : VLk "SteamNationsLaw" 13 ⟨"SteamNations", "sitter", "(IIII)I"⟩ prog_1_method_2_code 5 (some .int) 10 4 := ⟨rfl, gm_2 146 rfl rfl, gm_2 147 rfl rfl, gm_2 148 rfl rfl, gm_1 1 rfl rfl, gm_2 149 rfl rfl, ⟨by decide, by decide, by decide +kernel⟩, by decide⟩
theorem ml_L_17 : VLk "SteamNationsLaw" 17 ⟨"SteamNationsModel", "sitter", "(IIII)I"⟩ prog_13_method_26_code 5 (some .int) 11 4 := ⟨rfl, gm_6 125 rfl rfl, gm_6 126 rfl rfl, gm_6 127 rfl rfl, gm_1 13 rfl rfl, gm_6 128 rfl rfl, ⟨by decide, by decide, by decide +kernel⟩, by decide⟩
theorem ml_L_18 : VLk "SteamNationsLaw" 18 ⟨"SteamNations", "of", "(II)I"⟩ prog_1_method_3_code 4 (some .int) 10 2 := ⟨rfl, gm_2 176 rfl rfl, gm_2 177 rfl rfl, gm_2 178 rfl rfl, gm_1 1 rfl rfl, gm_2 179 rfl rfl, ⟨by decide, by decide, by decide +kernel⟩, by decide⟩
theorem ml_L_22 : VLk "SteamNationsLaw" 22 ⟨"SteamNationsModel", "of", "(II)I"⟩ prog_13_method_27_code 3 (some .int) 11 2 := ⟨rfl, gm_6 143 rfl rfl, gm_6 144 rfl rfl, gm_6 145 rfl rfl, gm_1 13 rfl rfl, gm_6 146 rfl rfl, ⟨by decide, by decide, by decide +kernel⟩, by decide⟩
theorem ml_L_23 : VLk "SteamNationsLaw" 23 ⟨"SteamNations", "at", "(I)I"⟩ prog_1_method_4_code 2 (some .int) 10 1 := ⟨rfl, gm_3 6 rfl rfl, gm_3 7 rfl rfl, gm_3 8 rfl rfl, gm_1 1 rfl rfl, gm_3 9 rfl rfl, ⟨by decide, by decide, by decide +kernel⟩, by decide⟩
theorem ml_L_27 : VLk "SteamNationsLaw" 27 ⟨"SteamNationsModel", "at", "(I)I"⟩ prog_13_method_28_code 2 (some .int) 11 1 := ⟨rfl, gm_6 234 rfl rfl, gm_6 235 rfl rfl, gm_6 236 rfl rfl, gm_1 13 rfl rfl, gm_6 237 rfl rfl, ⟨by decide, by decide, by decide +kernel⟩, by decide⟩
theorem ml_L_28 : VLk "SteamNationsLaw" 28 ⟨"SteamNations", "asks", "(II)I"⟩ prog_1_method_5_code 4 (some .int) 10 2 := ⟨rfl, gm_3 14 rfl rfl, gm_3 15 rfl rfl, gm_3 16 rfl rfl, gm_1 1 rfl rfl, gm_3 17 rfl rfl, ⟨by decide, by decide, by decide +kernel⟩, by decide⟩
theorem ml_L_31 : VLk "SteamNationsLaw" 31 ⟨"SteamNationsModel", "asks", "(II)I"⟩ prog_13_method_29_code 3 (some .int) 11 2 := ⟨rfl, gm_7 5 rfl rfl, gm_7 6 rfl rfl, gm_7 7 rfl rfl, gm_1 13 rfl rfl, gm_7 8 rfl rfl, ⟨by decide, by decide, by decide +kernel⟩, by decide⟩
theorem ml_L_32 : VLk "SteamNationsLaw" 32 ⟨"SteamNations", "terms", "(II)I"⟩ prog_1_method_6_code 4 (some .int) 10 2 := ⟨rfl, gm_3 31 rfl rfl, gm_3 32 rfl rfl, gm_3 33 rfl rfl, gm_1 1 rfl rfl, gm_3 34 rfl rfl, ⟨by decide, by decide, by decide +kernel⟩, by decide⟩
theorem ml_L_35 : VLk "SteamNationsLaw" 35 ⟨"SteamNationsModel", "terms", "(II)I"⟩ prog_13_method_32_code 4 (some .int) 11 2 := ⟨rfl, gm_7 16 rfl rfl, gm_7 17 rfl rfl, gm_7 18 rfl rfl, gm_1 13 rfl rfl, gm_7 19 rfl rfl, ⟨by decide, by decide, by decide +kernel⟩, by decide⟩
theorem ml_L_36 : VLk "SteamNationsLaw" 36 ⟨"SteamNations", "feed", "(IIIII)I"⟩ prog_1_method_7_code 6 (some .int) 10 5 := ⟨rfl, gm_3 37 rfl rfl, gm_3 38 rfl rfl, gm_3 39 rfl rfl, gm_1 1 rfl rfl, gm_3 40 rfl rfl, ⟨by decide, by decide, by decide +kernel⟩, by decide⟩
theorem ml_L_40 : VLk "SteamNationsLaw" 40 ⟨"SteamNationsModel", "feed", "(IIIII)I"⟩ prog_13_method_35_code 7 (some .int) 11 5 := ⟨rfl, gm_7 34 rfl rfl, gm_7 35 rfl rfl, gm_7 36 rfl rfl, gm_1 13 rfl rfl, gm_7 37 rfl rfl, ⟨by decide, by decide, by decide +kernel⟩, by decide⟩
theorem ml_L_41 : VLk "SteamNationsLaw" 41 ⟨"SteamNations", "end", "(I)I"⟩ prog_1_method_8_code 2 (some .int) 10 1 := ⟨rfl, gm_3 45 rfl rfl, gm_3 46 rfl rfl, gm_3 47 rfl rfl, gm_1 1 rfl rfl, gm_3 48 rfl rfl, ⟨by decide, by decide, by decide +kernel⟩, by decide⟩
theorem ml_L_44 : VLk "SteamNationsLaw" 44 ⟨"SteamNationsModel", "end", "(I)I"⟩ prog_13_method_36_code 2 (some .int) 11 1 := ⟨rfl, gm_7 38 rfl rfl, gm_7 39 rfl rfl, gm_7 40 rfl rfl, gm_1 13 rfl rfl, gm_7 41 rfl rfl, ⟨by decide, by decide, by decide +kernel⟩, by decide⟩
theorem ml_L_45 : VLk "SteamNationsLaw" 45 ⟨"SteamNations", "row", "()I"⟩ prog_1_method_9_code 3 (some .int) 10 0 := ⟨rfl, gm_3 49 rfl rfl, gm_3 50 rfl rfl, gm_3 51 rfl rfl, gm_1 1 rfl rfl, gm_3 52 rfl rfl, ⟨by decide, by decide, by decide +kernel⟩, by decide⟩
theorem ml_L_49 : VLk "SteamNationsLaw" 49 ⟨"SteamNationsModel", "row", "()I"⟩ prog_13_method_33_code 5 (some .int) 11 0 := ⟨rfl, gm_7 26 rfl rfl, gm_7 27 rfl rfl, gm_7 28 rfl rfl, gm_1 13 rfl rfl, gm_7 29 rfl rfl, ⟨by decide, by decide, by decide +kernel⟩, by decide⟩
theorem ml_L_50 : VLk "SteamNationsLaw" 50 ⟨"SteamNations", "puffs", "()I"⟩ prog_1_method_10_code 1 (some .int) 10 0 := ⟨rfl, gm_3 57 rfl rfl, gm_3 58 rfl rfl, gm_3 59 rfl rfl, gm_1 1 rfl rfl, gm_3 60 rfl rfl, ⟨by decide, by decide, by decide +kernel⟩, by decide⟩
theorem ml_L_53 : VLk "SteamNationsLaw" 53 ⟨"SteamNationsModel", "puffs", "()I"⟩ prog_13_method_34_code 1 (some .int) 11 0 := ⟨rfl, gm_7 30 rfl rfl, gm_7 31 rfl rfl, gm_7 32 rfl rfl, gm_1 13 rfl rfl, gm_7 33 rfl rfl, ⟨by decide, by decide, by decide +kernel⟩, by decide⟩
theorem ml_L_54 : VLk "SteamNationsLaw" 54 ⟨"SteamNations", "law", "()I"⟩ prog_1_method_11_code 3 (some .int) 10 0 := ⟨rfl, gm_3 61 rfl rfl, gm_3 62 rfl rfl, gm_3 63 rfl rfl, gm_1 1 rfl rfl, gm_3 64 rfl rfl, ⟨by decide, by decide, by decide +kernel⟩, by decide⟩
theorem ml_L_57 : VLk "SteamNationsLaw" 57 ⟨"SteamNationsModel", "law", "()I"⟩ prog_13_method_60_code 1 (some .int) 11 0 := ⟨rfl, gm_7 42 rfl rfl, gm_7 43 rfl rfl, gm_7 44 rfl rfl, gm_1 13 rfl rfl, gm_7 45 rfl rfl, ⟨by decide, by decide, by decide +kernel⟩, by decide⟩
theorem ml_L_58 : VLk "SteamNationsLaw" 58 ⟨"SteamNations", "orders", "()I"⟩ prog_1_method_12_code 2 (some .int) 10 0 := ⟨rfl, gm_4 10 rfl rfl, gm_4 11 rfl rfl, gm_4 12 rfl rfl, gm_1 1 rfl rfl, gm_4 13 rfl rfl, ⟨by decide, by decide, by decide +kernel⟩, by decide⟩
theorem ml_L_61 : VLk "SteamNationsLaw" 61 ⟨"SteamNationsModel", "orders", "()I"⟩ prog_13_method_123_code 5 (some .int) 11 0 := ⟨rfl, gm_8 99 rfl rfl, gm_8 100 rfl rfl, gm_8 101 rfl rfl, gm_1 13 rfl rfl, gm_8 102 rfl rfl, ⟨by decide, by decide, by decide +kernel⟩, by decide⟩
theorem ml_L_62 : VLk "SteamNationsLaw" 62 ⟨"SteamNations", "fault", "()I"⟩ prog_1_method_13_code 1 (some .int) 10 0 := ⟨rfl, gm_4 98 rfl rfl, gm_4 99 rfl rfl, gm_4 100 rfl rfl, gm_1 1 rfl rfl, gm_4 101 rfl rfl, ⟨by decide, by decide, by decide +kernel⟩, by decide⟩
theorem ml_L_65 : VLk "SteamNationsLaw" 65 ⟨"SteamNationsModel", "fault", "()I"⟩ prog_13_method_61_code 1 (some .int) 11 0 := ⟨rfl, gm_7 133 rfl rfl, gm_7 134 rfl rfl, gm_7 135 rfl rfl, gm_1 13 rfl rfl, gm_7 136 rfl rfl, ⟨by decide, by decide, by decide +kernel⟩, by decide⟩
theorem ml_L_66 : VLk "SteamNationsLaw" 66 ⟨"SteamNations", "stopped", "()I"⟩ prog_1_method_14_code 1 (some .int) 10 0 := ⟨rfl, gm_4 102 rfl rfl, gm_4 103 rfl rfl, gm_4 104 rfl rfl, gm_1 1 rfl rfl, gm_4 105 rfl rfl, ⟨by decide, by decide, by decide +kernel⟩, by decide⟩
theorem ml_L_69 : VLk "SteamNationsLaw" 69 ⟨"SteamNationsModel", "stopped", "()I"⟩ prog_13_method_122_code 1 (some .int) 11 0 := ⟨rfl, gm_8 95 rfl rfl, gm_8 96 rfl rfl, gm_8 97 rfl rfl, gm_1 13 rfl rfl, gm_8 98 rfl rfl, ⟨by decide, by decide, by decide +kernel⟩, by decide⟩
theorem ml_L_70 : VLk "SteamNationsLaw" 70 ⟨"SteamNations", "force", "(I)I"⟩ prog_1_method_15_code 3 (some .int) 10 1 := ⟨rfl, gm_4 106 rfl rfl, gm_4 107 rfl rfl, gm_4 108 rfl rfl, gm_1 1 rfl rfl, gm_4 109 rfl rfl, ⟨by decide, by decide, by decide +kernel⟩, by decide⟩
theorem ml_L_73 : VLk "SteamNationsLaw" 73 ⟨"SteamNationsModel", "force", "(I)I"⟩ prog_13_method_63_code 3 (some .int) 11 1 := ⟨rfl, gm_7 137 rfl rfl, gm_7 138 rfl rfl, gm_7 139 rfl rfl, gm_1 13 rfl rfl, gm_7 140 rfl rfl, ⟨by decide, by decide, by decide +kernel⟩, by decide⟩
theorem ml_L_74 : VLk "SteamNationsLaw" 74 ⟨"SteamNations", "seat", "(II)I"⟩ prog_1_method_16_code 3 (some .int) 10 2 := ⟨rfl, gm_4 111 rfl rfl, gm_4 112 rfl rfl, gm_4 113 rfl rfl, gm_1 1 rfl rfl, gm_4 114 rfl rfl, ⟨by decide, by decide, by decide +kernel⟩, by decide⟩
theorem ml_L_77 : VLk "SteamNationsLaw" 77 ⟨"SteamNationsModel", "seat", "(II)I"⟩ prog_13_method_90_code 3 (some .int) 11 2 := ⟨rfl, gm_7 149 rfl rfl, gm_7 150 rfl rfl, gm_7 151 rfl rfl, gm_1 13 rfl rfl, gm_7 152 rfl rfl, ⟨by decide, by decide, by decide +kernel⟩, by decide⟩
theorem ml_L_78 : VLk "SteamNationsLaw" 78 ⟨"SteamNations", "out", "(I)I"⟩ prog_1_method_17_code 2 (some .int) 10 1 := ⟨rfl, gm_4 116 rfl rfl, gm_4 117 rfl rfl, gm_4 118 rfl rfl, gm_1 1 rfl rfl, gm_4 119 rfl rfl, ⟨by decide, by decide, by decide +kernel⟩, by decide⟩
theorem ml_L_81 : VLk "SteamNationsLaw" 81 ⟨"SteamNationsModel", "out", "(I)I"⟩ prog_13_method_91_code 2 (some .int) 11 1 := ⟨rfl, gm_7 165 rfl rfl, gm_7 166 rfl rfl, gm_7 167 rfl rfl, gm_1 13 rfl rfl, gm_7 168 rfl rfl, ⟨by decide, by decide, by decide +kernel⟩, by decide⟩
theorem ml_L_82 : VLk "SteamNationsLaw" 82 ⟨"SteamNations", "swap", "(II)I"⟩ prog_1_method_18_code 3 (some .int) 10 2 := ⟨rfl, gm_4 121 rfl rfl, gm_4 122 rfl rfl, gm_4 123 rfl rfl, gm_1 1 rfl rfl, gm_4 124 rfl rfl, ⟨by decide, by decide, by decide +kernel⟩, by decide⟩
theorem ml_L_85 : VLk "SteamNationsLaw" 85 ⟨"SteamNationsModel", "swap", "(II)I"⟩ prog_13_method_92_code 3 (some .int) 11 2 := ⟨rfl, gm_7 173 rfl rfl, gm_7 174 rfl rfl, gm_7 175 rfl rfl, gm_1 13 rfl rfl, gm_7 176 rfl rfl, ⟨by decide, by decide, by decide +kernel⟩, by decide⟩
theorem ml_L_86 : VLk "SteamNationsLaw" 86 ⟨"SteamNations", "pass", "()I"⟩ prog_1_method_19_code 1 (some .int) 10 0 := ⟨rfl, gm_4 126 rfl rfl, gm_4 127 rfl rfl, gm_4 128 rfl rfl, gm_1 1 rfl rfl, gm_4 129 rfl rfl, ⟨by decide, by decide, by decide +kernel⟩, by decide⟩
theorem ml_L_89 : VLk "SteamNationsLaw" 89 ⟨"SteamNationsModel", "pass", "()I"⟩ prog_13_method_93_code 1 (some .int) 11 0 := ⟨rfl, gm_7 181 rfl rfl, gm_7 182 rfl rfl, gm_7 183 rfl rfl, gm_1 13 rfl rfl, gm_7 184 rfl rfl, ⟨by decide, by decide, by decide +kernel⟩, by decide⟩
theorem ml_L_90 : VLk "SteamNationsLaw" 90 ⟨"SteamNations", "undo", "()I"⟩ prog_1_method_20_code 1 (some .int) 10 0 := ⟨rfl, gm_4 131 rfl rfl, gm_4 132 rfl rfl, gm_4 133 rfl rfl, gm_1 1 rfl rfl, gm_4 134 rfl rfl, ⟨by decide, by decide, by decide +kernel⟩, by decide⟩
theorem ml_L_93 : VLk "SteamNationsLaw" 93 ⟨"SteamNationsModel", "undo", "()I"⟩ prog_13_method_84_code 3 (some .int) 11 0 := ⟨rfl, gm_7 145 rfl rfl, gm_7 146 rfl rfl, gm_7 147 rfl rfl, gm_1 13 rfl rfl, gm_7 148 rfl rfl, ⟨by decide, by decide, by decide +kernel⟩, by decide⟩
theorem ml_L_94 : VLk "SteamNationsLaw" 94 ⟨"SteamNations", "later", "(III)I"⟩ prog_1_method_21_code 4 (some .int) 10 3 := ⟨rfl, gm_4 139 rfl rfl, gm_4 140 rfl rfl, gm_4 141 rfl rfl, gm_1 1 rfl rfl, gm_4 142 rfl rfl, ⟨by decide, by decide, by decide +kernel⟩, by decide⟩
theorem ml_L_98 : VLk "SteamNationsLaw" 98 ⟨"SteamNationsModel", "later", "(III)I"⟩ prog_13_method_94_code 5 (some .int) 11 3 := ⟨rfl, gm_7 200 rfl rfl, gm_7 201 rfl rfl, gm_7 202 rfl rfl, gm_1 13 rfl rfl, gm_7 203 rfl rfl, ⟨by decide, by decide, by decide +kernel⟩, by decide⟩
theorem ml_L_99 : VLk "SteamNationsLaw" 99 ⟨"SteamNations", "when", "(II)I"⟩ prog_1_method_22_code 4 (some .int) 10 2 := ⟨rfl, gm_4 152 rfl rfl, gm_4 153 rfl rfl, gm_4 154 rfl rfl, gm_1 1 rfl rfl, gm_4 155 rfl rfl, ⟨by decide, by decide, by decide +kernel⟩, by decide⟩
theorem ml_L_102 : VLk "SteamNationsLaw" 102 ⟨"SteamNationsModel", "when", "(II)I"⟩ prog_13_method_95_code 4 (some .int) 11 2 := ⟨rfl, gm_7 216 rfl rfl, gm_7 217 rfl rfl, gm_7 218 rfl rfl, gm_1 13 rfl rfl, gm_7 219 rfl rfl, ⟨by decide, by decide, by decide +kernel⟩, by decide⟩
theorem ml_L_103 : VLk "SteamNationsLaw" 103 ⟨"SteamNations", "one", "()I"⟩ prog_1_method_23_code 2 (some .int) 10 0 := ⟨rfl, gm_4 156 rfl rfl, gm_4 157 rfl rfl, gm_4 158 rfl rfl, gm_1 1 rfl rfl, gm_4 159 rfl rfl, ⟨by decide, by decide, by decide +kernel⟩, by decide⟩
theorem ml_L_106 : VLk "SteamNationsLaw" 106 ⟨"SteamNationsModel", "one", "()I"⟩ prog_13_method_97_code 2 (some .int) 11 0 := ⟨rfl, gm_7 220 rfl rfl, gm_7 221 rfl rfl, gm_7 222 rfl rfl, gm_1 13 rfl rfl, gm_7 223 rfl rfl, ⟨by decide, by decide, by decide +kernel⟩, by decide⟩
theorem ml_L_107 : VLk "SteamNationsLaw" 107 ⟨"SteamNations", "pleased", "(II)I"⟩ prog_1_method_24_code 4 (some .int) 10 2 := ⟨rfl, gm_4 164 rfl rfl, gm_4 165 rfl rfl, gm_4 166 rfl rfl, gm_1 1 rfl rfl, gm_4 167 rfl rfl, ⟨by decide, by decide, by decide +kernel⟩, by decide⟩
theorem ml_L_110 : VLk "SteamNationsLaw" 110 ⟨"SteamNationsModel", "pleased", "(II)I"⟩ prog_13_method_102_code 6 (some .int) 11 2 := ⟨rfl, gm_7 228 rfl rfl, gm_7 229 rfl rfl, gm_7 230 rfl rfl, gm_1 13 rfl rfl, gm_7 231 rfl rfl, ⟨by decide, by decide, by decide +kernel⟩, by decide⟩
theorem ml_L_111 : VLk "SteamNationsLaw" 111 ⟨"SteamNations", "exchanges", "(II)I"⟩ prog_1_method_25_code 3 (some .int) 10 2 := ⟨rfl, gm_4 224 rfl rfl, gm_4 225 rfl rfl, gm_4 226 rfl rfl, gm_1 1 rfl rfl, gm_4 227 rfl rfl, ⟨by decide, by decide, by decide +kernel⟩, by decide⟩
theorem ml_L_114 : VLk "SteamNationsLaw" 114 ⟨"SteamNationsModel", "exchanges", "(II)I"⟩ prog_13_method_107_code 4 (some .int) 11 2 := ⟨rfl, gm_8 10 rfl rfl, gm_8 11 rfl rfl, gm_8 12 rfl rfl, gm_1 13 rfl rfl, gm_8 13 rfl rfl, ⟨by decide, by decide, by decide +kernel⟩, by decide⟩
theorem ml_L_115 : VLk "SteamNationsLaw" 115 ⟨"SteamNations", "seen", "(III)I"⟩ prog_1_method_26_code 4 (some .int) 10 3 := ⟨rfl, gm_5 21 rfl rfl, gm_5 22 rfl rfl, gm_5 23 rfl rfl, gm_1 1 rfl rfl, gm_5 24 rfl rfl, ⟨by decide, by decide, by decide +kernel⟩, by decide⟩
theorem ml_L_118 : VLk "SteamNationsLaw" 118 ⟨"SteamNationsModel", "seen", "(III)I"⟩ prog_13_method_108_code 5 (some .int) 11 3 := ⟨rfl, gm_8 34 rfl rfl, gm_8 35 rfl rfl, gm_8 36 rfl rfl, gm_1 13 rfl rfl, gm_8 37 rfl rfl, ⟨by decide, by decide, by decide +kernel⟩, by decide⟩
theorem ml_L_119 : VLk "SteamNationsLaw" 119 ⟨"SteamNations", "forget", "()I"⟩ prog_1_method_27_code 2 (some .int) 10 0 := ⟨rfl, gm_5 29 rfl rfl, gm_5 30 rfl rfl, gm_5 31 rfl rfl, gm_1 1 rfl rfl, gm_5 32 rfl rfl, ⟨by decide, by decide, by decide +kernel⟩, by decide⟩
theorem ml_L_122 : VLk "SteamNationsLaw" 122 ⟨"SteamNationsModel", "forget", "()I"⟩ prog_13_method_109_code 2 (some .int) 11 0 := ⟨rfl, gm_8 38 rfl rfl, gm_8 39 rfl rfl, gm_8 40 rfl rfl, gm_1 13 rfl rfl, gm_8 41 rfl rfl, ⟨by decide, by decide, by decide +kernel⟩, by decide⟩
theorem ml_L_123 : VLk "SteamNationsLaw" 123 ⟨"SteamNations", "sat", "(II)I"⟩ prog_1_method_28_code 4 (some .int) 10 2 := ⟨rfl, gm_5 33 rfl rfl, gm_5 34 rfl rfl, gm_5 35 rfl rfl, gm_1 1 rfl rfl, gm_5 36 rfl rfl, ⟨by decide, by decide, by decide +kernel⟩, by decide⟩
theorem ml_L_126 : VLk "SteamNationsLaw" 126 ⟨"SteamNationsModel", "sat", "(II)I"⟩ prog_13_method_112_code 7 (some .int) 11 2 := ⟨rfl, gm_8 42 rfl rfl, gm_8 43 rfl rfl, gm_8 44 rfl rfl, gm_1 13 rfl rfl, gm_8 45 rfl rfl, ⟨by decide, by decide, by decide +kernel⟩, by decide⟩
theorem ml_L_127 : VLk "SteamNationsLaw" 127 ⟨"SteamNations", "ask", "(II)I"⟩ prog_1_method_29_code 7 (some .int) 10 2 := ⟨rfl, gm_5 67 rfl rfl, gm_5 68 rfl rfl, gm_5 69 rfl rfl, gm_1 1 rfl rfl, gm_5 70 rfl rfl, ⟨by decide, by decide, by decide +kernel⟩, by decide⟩
theorem ml_L_130 : VLk "SteamNationsLaw" 130 ⟨"SteamNationsModel", "ask", "(II)I"⟩ prog_13_method_114_code 7 (some .int) 11 2 := ⟨rfl, gm_8 54 rfl rfl, gm_8 55 rfl rfl, gm_8 56 rfl rfl, gm_1 13 rfl rfl, gm_8 57 rfl rfl, ⟨by decide, by decide, by decide +kernel⟩, by decide⟩
theorem ml_L_131 : VLk "SteamNationsLaw" 131 ⟨"SteamNations", "treaty", "(II)I"⟩ prog_1_method_30_code 5 (some .int) 10 2 := ⟨rfl, gm_5 78 rfl rfl, gm_5 79 rfl rfl, gm_5 80 rfl rfl, gm_1 1 rfl rfl, gm_5 81 rfl rfl, ⟨by decide, by decide, by decide +kernel⟩, by decide⟩
theorem ml_L_134 : VLk "SteamNationsLaw" 134 ⟨"SteamNationsModel", "treaty", "(II)I"⟩ prog_13_method_117_code 5 (some .int) 11 2 := ⟨rfl, gm_8 62 rfl rfl, gm_8 63 rfl rfl, gm_8 64 rfl rfl, gm_1 13 rfl rfl, gm_8 65 rfl rfl, ⟨by decide, by decide, by decide +kernel⟩, by decide⟩
theorem ml_L_135 : VLk "SteamNationsLaw" 135 ⟨"SteamNations", "drop", "(III)I"⟩ prog_1_method_31_code 6 (some .int) 10 3 := ⟨rfl, gm_5 97 rfl rfl, gm_5 98 rfl rfl, gm_5 99 rfl rfl, gm_1 1 rfl rfl, gm_5 100 rfl rfl, ⟨by decide, by decide, by decide +kernel⟩, by decide⟩
theorem ml_L_138 : VLk "SteamNationsLaw" 138 ⟨"SteamNationsModel", "drop", "(III)I"⟩ prog_13_method_119_code 5 (some .int) 11 3 := ⟨rfl, gm_8 77 rfl rfl, gm_8 78 rfl rfl, gm_8 79 rfl rfl, gm_1 13 rfl rfl, gm_8 80 rfl rfl, ⟨by decide, by decide, by decide +kernel⟩, by decide⟩
theorem ml_L_139 : VLk "SteamNationsLaw" 139 ⟨"SteamNations", "few", "(II)J"⟩ prog_1_method_32_code 7 (some .long) 10 2 := ⟨rfl, gm_5 108 rfl rfl, gm_5 109 rfl rfl, gm_5 110 rfl rfl, gm_1 1 rfl rfl, gm_5 111 rfl rfl, ⟨by decide, by decide, by decide +kernel⟩, by decide⟩
theorem ml_L_143 : VLk "SteamNationsLaw" 143 ⟨"SteamNationsModel", "few", "(II)J"⟩ prog_13_method_120_code 6 (some .long) 11 2 := ⟨rfl, gm_8 85 rfl rfl, gm_8 86 rfl rfl, gm_8 87 rfl rfl, gm_1 13 rfl rfl, gm_8 88 rfl rfl, ⟨by decide, by decide, by decide +kernel⟩, by decide⟩
theorem ml_L_144 : VLk "SteamNationsLaw" 144 ⟨"SteamNations", "compare", "(II)I"⟩ prog_1_method_33_code 3 (some .int) 10 2 := ⟨rfl, gm_5 118 rfl rfl, gm_5 119 rfl rfl, gm_5 120 rfl rfl, gm_1 1 rfl rfl, gm_5 121 rfl rfl, ⟨by decide, by decide, by decide +kernel⟩, by decide⟩
theorem ml_L_147 : VLk "SteamNationsLaw" 147 ⟨"SteamNationsModel", "compare", "(II)I"⟩ prog_13_method_121_code 5 (some .int) 11 2 := ⟨rfl, gm_8 91 rfl rfl, gm_8 92 rfl rfl, gm_8 93 rfl rfl, gm_1 13 rfl rfl, gm_8 94 rfl rfl, ⟨by decide, by decide, by decide +kernel⟩, by decide⟩
theorem ml_L_148 : VLk "SteamNationsLaw" 148 ⟨"SteamNations", "mornings", "(II)I"⟩ prog_1_method_34_code 8 (some .int) 10 2 := ⟨rfl, gm_5 124 rfl rfl, gm_5 125 rfl rfl, gm_5 126 rfl rfl, gm_1 1 rfl rfl, gm_5 127 rfl rfl, ⟨by decide, by decide, by decide +kernel⟩, by decide⟩
theorem ml_L_151 : VLk "SteamNationsLaw" 151 ⟨"SteamNationsModel", "mornings", "(II)I"⟩ prog_13_method_130_code 5 (some .int) 11 2 := ⟨rfl, gm_8 119 rfl rfl, gm_8 120 rfl rfl, gm_8 121 rfl rfl, gm_1 13 rfl rfl, gm_8 122 rfl rfl, ⟨by decide, by decide, by decide +kernel⟩, by decide⟩
theorem ml_L_152 : VLk "SteamNationsLaw" 152 ⟨"SteamNations", "drawn", "(II)I"⟩ prog_1_method_35_code 3 (some .int) 10 2 := ⟨rfl, gm_5 136 rfl rfl, gm_5 137 rfl rfl, gm_5 138 rfl rfl, gm_1 1 rfl rfl, gm_5 139 rfl rfl, ⟨by decide, by decide, by decide +kernel⟩, by decide⟩
theorem ml_L_155 : VLk "SteamNationsLaw" 155 ⟨"SteamNationsModel", "drawn", "(II)I"⟩ prog_13_method_131_code 3 (some .int) 11 2 := ⟨rfl, gm_8 134 rfl rfl, gm_8 135 rfl rfl, gm_8 136 rfl rfl, gm_1 13 rfl rfl, gm_8 137 rfl rfl, ⟨by decide, by decide, by decide +kernel⟩, by decide⟩
theorem ml_L_156 : VLk "SteamNationsLaw" 156 ⟨"SteamNations", "image", "(I)I"⟩ prog_1_method_36_code 2 (some .int) 10 1 := ⟨rfl, gm_5 140 rfl rfl, gm_5 141 rfl rfl, gm_5 142 rfl rfl, gm_1 1 rfl rfl, gm_5 143 rfl rfl, ⟨by decide, by decide, by decide +kernel⟩, by decide⟩
theorem ml_L_159 : VLk "SteamNationsLaw" 159 ⟨"SteamNationsModel", "image", "(I)I"⟩ prog_13_method_15_code 3 (some .int) 11 1 := ⟨rfl, gm_6 102 rfl rfl, gm_6 103 rfl rfl, gm_6 104 rfl rfl, gm_1 13 rfl rfl, gm_6 105 rfl rfl, ⟨by decide, by decide, by decide +kernel⟩, by decide⟩
theorem ml_L_160 : VLk "SteamNationsLaw" 160 ⟨"SteamNations", "back", "(I)I"⟩ prog_1_method_37_code 2 (some .int) 10 1 := ⟨rfl, gm_5 150 rfl rfl, gm_5 151 rfl rfl, gm_5 152 rfl rfl, gm_1 1 rfl rfl, gm_5 153 rfl rfl, ⟨by decide, by decide, by decide +kernel⟩, by decide⟩
theorem ml_L_163 : VLk "SteamNationsLaw" 163 ⟨"SteamNationsModel", "back", "(I)I"⟩ prog_13_method_16_code 3 (some .int) 11 1 := ⟨rfl, gm_6 117 rfl rfl, gm_6 118 rfl rfl, gm_6 119 rfl rfl, gm_1 13 rfl rfl, gm_6 120 rfl rfl, ⟨by decide, by decide, by decide +kernel⟩, by decide⟩
theorem ml_L_164 : VLk "SteamNationsLaw" 164 ⟨"SteamNations", "count", "(I)I"⟩ prog_1_method_38_code 2 (some .int) 10 1 := ⟨rfl, gm_5 154 rfl rfl, gm_5 155 rfl rfl, gm_5 156 rfl rfl, gm_1 1 rfl rfl, gm_5 157 rfl rfl, ⟨by decide, by decide, by decide +kernel⟩, by decide⟩
theorem ml_L_167 : VLk "SteamNationsLaw" 167 ⟨"SteamNationsModel", "count", "(I)I"⟩ prog_13_method_133_code 2 (some .int) 11 1 := ⟨rfl, gm_8 138 rfl rfl, gm_8 139 rfl rfl, gm_8 140 rfl rfl, gm_1 13 rfl rfl, gm_8 141 rfl rfl, ⟨by decide, by decide, by decide +kernel⟩, by decide⟩
theorem ml_L_168 : VLk "SteamNationsLaw" 168 ⟨"SteamNations", "status", "()I"⟩ prog_1_method_39_code 1 (some .int) 10 0 := ⟨rfl, gm_5 163 rfl rfl, gm_5 164 rfl rfl, gm_5 165 rfl rfl, gm_1 1 rfl rfl, gm_5 166 rfl rfl, ⟨by decide, by decide, by decide +kernel⟩, by decide⟩
theorem ml_L_171 : VLk "SteamNationsLaw" 171 ⟨"SteamNationsModel", "status", "()I"⟩ prog_13_method_134_code 1 (some .int) 11 0 := ⟨rfl, gm_8 146 rfl rfl, gm_8 147 rfl rfl, gm_8 148 rfl rfl, gm_1 13 rfl rfl, gm_8 149 rfl rfl, ⟨by decide, by decide, by decide +kernel⟩, by decide⟩
theorem ml_11_14 : VLk cn_11 14 ⟨"SteamNationsModel", "good", "(I)I"⟩ prog_13_method_5_code 2 (some .int) 11 1 := ⟨rfl, gm_6 113 rfl rfl, gm_6 115 rfl rfl, gw_mem 51 (by decide +kernel) rfl, gm_1 13 rfl rfl, gm_6 116 rfl rfl, ⟨by decide, by decide, by decide +kernel⟩, by decide⟩
theorem ml_11_18 : SLk cn_11 18 ⟨"SteamNationsModel", "lies", "(III)Z"⟩ prog_13_method_1_code 3 (some .boolean) 3 := ⟨gm_6 106 rfl rfl, gm_6 107 rfl rfl, gm_1 13 rfl rfl, gm_6 108 rfl rfl, ⟨by decide, by decide, by decide +kernel⟩, by decide⟩
theorem ml_11_121 : VLk cn_11 121 ⟨"SteamNationsModel", "refuses", "(I)I"⟩ prog_13_method_4_code 2 (some .int) 11 1 := ⟨rfl, gm_6 109 rfl rfl, gm_6 111 rfl rfl, gw_mem 50 (by decide +kernel) rfl, gm_1 13 rfl rfl, gm_6 112 rfl rfl, ⟨by decide, by decide, by decide +kernel⟩, by decide⟩
theorem ml_11_124 : VLk cn_11 124 ⟨"SteamNationsModel", "settled", "(I)I"⟩ prog_13_method_6_code 2 (some .int) 11 1 := ⟨rfl, gm_6 121 rfl rfl, gm_6 123 rfl rfl, gw_mem 52 (by decide +kernel) rfl, gm_1 13 rfl rfl, gm_6 124 rfl rfl, ⟨by decide, by decide, by decide +kernel⟩, by decide⟩
theorem ml_11_127 : VLk cn_11 127 ⟨"SteamNationsModel", "many", "()I"⟩ prog_13_method_17_code 1 (some .int) 11 0 := ⟨rfl, gm_6 135 rfl rfl, gm_6 137 rfl rfl, gw_mem 53 (by decide +kernel) rfl, gm_1 13 rfl rfl, gm_6 138 rfl rfl, ⟨by decide, by decide, by decide +kernel⟩, by decide⟩
theorem ml_11_131 : VLk cn_11 131 ⟨"SteamNationsModel", "partsOf", "(II)I"⟩ prog_13_method_19_code 3 (some .int) 11 2 := ⟨rfl, gm_6 151 rfl rfl, gm_6 153 rfl rfl, gw_mem 56 (by decide +kernel) rfl, gm_1 13 rfl rfl, gm_6 154 rfl rfl, ⟨by decide, by decide, by decide +kernel⟩, by decide⟩
theorem ml_11_135 : SLk cn_11 135 ⟨"SteamNationsModel", "isNation", "(I)Z"⟩ prog_13_method_9_code 1 (some .boolean) 1 := ⟨gm_6 132 rfl rfl, gm_6 133 rfl rfl, gm_1 13 rfl rfl, gm_6 134 rfl rfl, ⟨by decide, by decide, by decide +kernel⟩, by decide⟩
theorem ml_11_139 : SLk cn_11 139 ⟨"SteamNationsModel", "canBe", "(IIII)Z"⟩ prog_13_method_24_code 4 (some .boolean) 4 := ⟨gm_6 129 rfl rfl, gm_6 130 rfl rfl, gm_1 13 rfl rfl, gm_6 131 rfl rfl, ⟨by decide, by decide, by decide +kernel⟩, by decide⟩
theorem ml_11_143 : VLk cn_11 143 ⟨"SteamNationsModel", "adds", "(IIII)V"⟩ prog_13_method_25_code 6 none 11 4 := ⟨rfl, gm_6 139 rfl rfl, gm_6 141 rfl rfl, gw_mem 54 (by decide +kernel) rfl, gm_1 13 rfl rfl, gm_6 142 rfl rfl, ⟨by decide, by decide, by decide +kernel⟩, by decide⟩
theorem ml_11_147 : VLk cn_11 147 ⟨"SteamNationsModel", "isSitter", "(I)Z"⟩ prog_13_method_18_code 2 (some .boolean) 11 1 := ⟨rfl, gm_6 147 rfl rfl, gm_6 149 rfl rfl, gw_mem 55 (by decide +kernel) rfl, gm_1 13 rfl rfl, gm_6 150 rfl rfl, ⟨by decide, by decide, by decide +kernel⟩, by decide⟩
theorem ml_11_150 : VLk cn_11 150 ⟨"SteamNationsModel", "seatOf", "(I)I"⟩ prog_13_method_20_code 2 (some .int) 11 1 := ⟨rfl, gm_6 155 rfl rfl, gm_6 157 rfl rfl, gw_mem 57 (by decide +kernel) rfl, gm_1 13 rfl rfl, gm_6 158 rfl rfl, ⟨by decide, by decide, by decide +kernel⟩, by decide⟩
theorem ml_11_153 : VLk cn_11 153 ⟨"SteamNationsModel", "nationOf", "(I)I"⟩ prog_13_method_22_code 4 (some .int) 11 1 := ⟨rfl, gm_6 159 rfl rfl, gm_6 161 rfl rfl, gw_mem 58 (by decide +kernel) rfl, gm_1 13 rfl rfl, gm_6 162 rfl rfl, ⟨by decide, by decide, by decide +kernel⟩, by decide⟩
theorem ml_11_156 : VLk cn_11 156 ⟨"SteamNationsModel", "isInside", "(I)Z"⟩ prog_13_method_21_code 2 (some .boolean) 11 1 := ⟨rfl, gm_6 163 rfl rfl, gm_6 165 rfl rfl, gw_mem 59 (by decide +kernel) rfl, gm_1 13 rfl rfl, gm_6 166 rfl rfl, ⟨by decide, by decide, by decide +kernel⟩, by decide⟩
theorem ml_11_159 : VLk cn_11 159 ⟨"SteamNationsModel", "tells", "(III)I"⟩ prog_13_method_76_code 11 (some .int) 11 3 := ⟨rfl, gm_6 167 rfl rfl, gm_6 169 rfl rfl, gw_mem 60 (by decide +kernel) rfl, gm_1 13 rfl rfl, gm_6 170 rfl rfl, ⟨by decide, by decide, by decide +kernel⟩, by decide⟩
theorem ml_11_163 : SLk cn_11 163 ⟨"SteamNationsModel", "isSeat", "(I)Z"⟩ prog_13_method_10_code 1 (some .boolean) 1 := ⟨gm_6 238 rfl rfl, gm_6 239 rfl rfl, gm_1 13 rfl rfl, gm_7 0 rfl rfl, ⟨by decide, by decide, by decide +kernel⟩, by decide⟩
theorem ml_11_166 : VLk cn_11 166 ⟨"SteamNationsModel", "onSeat", "(I)I"⟩ prog_13_method_23_code 4 (some .int) 11 1 := ⟨rfl, gm_7 1 rfl rfl, gm_7 3 rfl rfl, gw_mem 75 (by decide +kernel) rfl, gm_1 13 rfl rfl, gm_7 4 rfl rfl, ⟨by decide, by decide, by decide +kernel⟩, by decide⟩
theorem ml_11_169 : SLk cn_11 169 ⟨"SteamNationsModel", "areBeside", "(II)Z"⟩ prog_13_method_11_code 3 (some .boolean) 2 := ⟨gm_7 9 rfl rfl, gm_7 10 rfl rfl, gm_1 13 rfl rfl, gm_7 11 rfl rfl, ⟨by decide, by decide, by decide +kernel⟩, by decide⟩
theorem ml_11_173 : VLk cn_11 173 ⟨"SteamNationsModel", "givesTo", "(II)I"⟩ prog_13_method_77_code 4 (some .int) 11 2 := ⟨rfl, gm_7 12 rfl rfl, gm_7 14 rfl rfl, gw_mem 76 (by decide +kernel) rfl, gm_1 13 rfl rfl, gm_7 15 rfl rfl, ⟨by decide, by decide, by decide +kernel⟩, by decide⟩
theorem ml_11_176 : SLk cn_11 176 ⟨"SteamNationsModel", "isTerm", "(II)Z"⟩ prog_13_method_30_code 2 (some .boolean) 2 := ⟨gm_7 20 rfl rfl, gm_7 21 rfl rfl, gm_1 13 rfl rfl, gm_7 22 rfl rfl, ⟨by decide, by decide, by decide +kernel⟩, by decide⟩
theorem ml_11_179 : SLk cn_11 179 ⟨"SteamNationsModel", "termAt", "(I)I"⟩ prog_13_method_31_code 1 (some .int) 1 := ⟨gm_7 23 rfl rfl, gm_7 24 rfl rfl, gm_1 13 rfl rfl, gm_7 25 rfl rfl, ⟨by decide, by decide, by decide +kernel⟩, by decide⟩
theorem ml_11_191 : SLk cn_11 191 ⟨"SteamNationsModel", "isSmall", "(I)Z"⟩ prog_13_method_37_code 1 (some .boolean) 1 := ⟨gm_7 58 rfl rfl, gm_7 59 rfl rfl, gm_1 13 rfl rfl, gm_7 60 rfl rfl, ⟨by decide, by decide, by decide +kernel⟩, by decide⟩
theorem ml_11_194 : SLk cn_11 194 ⟨"SteamNationsModel", "isDigit", "(I)Z"⟩ prog_13_method_38_code 1 (some .boolean) 1 := ⟨gm_7 61 rfl rfl, gm_7 62 rfl rfl, gm_1 13 rfl rfl, gm_7 63 rfl rfl, ⟨by decide, by decide, by decide +kernel⟩, by decide⟩
theorem ml_11_197 : VLk cn_11 197 ⟨"SteamNationsModel", "wordOf", "(II)I"⟩ prog_13_method_39_code 8 (some .int) 11 2 := ⟨rfl, gm_7 64 rfl rfl, gm_7 66 rfl rfl, gw_mem 80 (by decide +kernel) rfl, gm_1 13 rfl rfl, gm_7 67 rfl rfl, ⟨by decide, by decide, by decide +kernel⟩, by decide⟩
theorem ml_11_204 : VLk cn_11 204 ⟨"SteamNationsModel", "fine", "()Z"⟩ prog_13_method_41_code 1 (some .boolean) 11 0 := ⟨rfl, gm_7 81 rfl rfl, gm_7 83 rfl rfl, gw_mem 84 (by decide +kernel) rfl, gm_1 13 rfl rfl, gm_7 84 rfl rfl, ⟨by decide, by decide, by decide +kernel⟩, by decide⟩
theorem ml_11_211 : VLk cn_11 211 ⟨"SteamNationsModel", "takes0", "(I)Z"⟩ prog_13_method_43_code 3 (some .boolean) 11 1 := ⟨rfl, gm_7 77 rfl rfl, gm_7 79 rfl rfl, gw_mem 83 (by decide +kernel) rfl, gm_1 13 rfl rfl, gm_7 80 rfl rfl, ⟨by decide, by decide, by decide +kernel⟩, by decide⟩
theorem ml_11_214 : VLk cn_11 214 ⟨"SteamNationsModel", "faults", "()V"⟩ prog_13_method_42_code 1 none 11 0 := ⟨rfl, gm_7 97 rfl rfl, gm_7 99 rfl rfl, gw_mem 88 (by decide +kernel) rfl, gm_1 13 rfl rfl, gm_7 100 rfl rfl, ⟨by decide, by decide, by decide +kernel⟩, by decide⟩
theorem ml_11_220 : VLk cn_11 220 ⟨"SteamNationsModel", "readSum", "(I)V"⟩ prog_13_method_54_code 2 none 11 1 := ⟨rfl, gm_7 85 rfl rfl, gm_7 87 rfl rfl, gw_mem 85 (by decide +kernel) rfl, gm_1 13 rfl rfl, gm_7 88 rfl rfl, ⟨by decide, by decide, by decide +kernel⟩, by decide⟩
theorem ml_11_224 : VLk cn_11 224 ⟨"SteamNationsModel", "must", "(I)V"⟩ prog_13_method_44_code 2 none 11 1 := ⟨rfl, gm_7 101 rfl rfl, gm_7 103 rfl rfl, gw_mem 89 (by decide +kernel) rfl, gm_1 13 rfl rfl, gm_7 104 rfl rfl, ⟨by decide, by decide, by decide +kernel⟩, by decide⟩
theorem ml_11_227 : VLk cn_11 227 ⟨"SteamNationsModel", "readTest", "(I)V"⟩ prog_13_method_51_code 2 none 11 1 := ⟨rfl, gm_7 113 rfl rfl, gm_7 115 rfl rfl, gw_mem 92 (by decide +kernel) rfl, gm_1 13 rfl rfl, gm_7 116 rfl rfl, ⟨by decide, by decide, by decide +kernel⟩, by decide⟩
theorem ml_11_230 : VLk cn_11 230 ⟨"SteamNationsModel", "mustNumber", "(II)V"⟩ prog_13_method_47_code 3 none 11 2 := ⟨rfl, gm_7 109 rfl rfl, gm_7 111 rfl rfl, gw_mem 91 (by decide +kernel) rfl, gm_1 13 rfl rfl, gm_7 112 rfl rfl, ⟨by decide, by decide, by decide +kernel⟩, by decide⟩
theorem ml_11_238 : VLk cn_11 238 ⟨"SteamNationsModel", "readOrder", "()V"⟩ prog_13_method_49_code 1 none 11 0 := ⟨rfl, gm_7 73 rfl rfl, gm_7 75 rfl rfl, gw_mem 82 (by decide +kernel) rfl, gm_1 13 rfl rfl, gm_7 76 rfl rfl, ⟨by decide, by decide, by decide +kernel⟩, by decide⟩
theorem ml_11_241 : VLk cn_11 241 ⟨"SteamNationsModel", "readClause", "()V"⟩ prog_13_method_48_code 1 none 11 0 := ⟨rfl, gm_7 125 rfl rfl, gm_7 127 rfl rfl, gw_mem 95 (by decide +kernel) rfl, gm_1 13 rfl rfl, gm_7 128 rfl rfl, ⟨by decide, by decide, by decide +kernel⟩, by decide⟩
theorem ml_11_244 : VLk cn_11 244 ⟨"SteamNationsModel", "readBoth", "(I)V"⟩ prog_13_method_52_code 2 none 11 1 := ⟨rfl, gm_7 117 rfl rfl, gm_7 119 rfl rfl, gw_mem 93 (by decide +kernel) rfl, gm_1 13 rfl rfl, gm_7 120 rfl rfl, ⟨by decide, by decide, by decide +kernel⟩, by decide⟩
theorem ml_11_247 : VLk cn_11 247 ⟨"SteamNationsModel", "readPlain", "(I)V"⟩ prog_13_method_53_code 4 none 11 1 := ⟨rfl, gm_7 121 rfl rfl, gm_7 123 rfl rfl, gw_mem 94 (by decide +kernel) rfl, gm_1 13 rfl rfl, gm_7 124 rfl rfl, ⟨by decide, by decide, by decide +kernel⟩, by decide⟩
theorem ml_11_250 : SLk cn_11 250 ⟨"SteamNationsModel", "sign", "(C)I"⟩ prog_13_method_46_code 1 (some .int) 1 := ⟨gm_6 192 rfl rfl, gm_6 193 rfl rfl, gm_1 13 rfl rfl, gm_6 194 rfl rfl, ⟨by decide, by decide, by decide +kernel⟩, by decide⟩
theorem ml_11_254 : VLk cn_11 254 ⟨"SteamNationsModel", "readTerm", "(I)V"⟩ prog_13_method_55_code 2 none 11 1 := ⟨rfl, gm_7 89 rfl rfl, gm_7 91 rfl rfl, gw_mem 86 (by decide +kernel) rfl, gm_1 13 rfl rfl, gm_7 92 rfl rfl, ⟨by decide, by decide, by decide +kernel⟩, by decide⟩
theorem ml_11_257 : VLk cn_11 257 ⟨"SteamNationsModel", "readPart", "(I)V"⟩ prog_13_method_56_code 3 none 11 1 := ⟨rfl, gm_7 93 rfl rfl, gm_7 95 rfl rfl, gw_mem 87 (by decide +kernel) rfl, gm_1 13 rfl rfl, gm_7 96 rfl rfl, ⟨by decide, by decide, by decide +kernel⟩, by decide⟩
theorem ml_11_266 : VLk cn_11 266 ⟨"SteamNationsModel", "leaf", "()V"⟩ prog_13_method_45_code 1 none 11 0 := ⟨rfl, gm_7 105 rfl rfl, gm_7 107 rfl rfl, gw_mem 90 (by decide +kernel) rfl, gm_1 13 rfl rfl, gm_7 108 rfl rfl, ⟨by decide, by decide, by decide +kernel⟩, by decide⟩
theorem ml_11_269 : VLk cn_11 269 ⟨"SteamNationsModel", "splits", "(I)V"⟩ prog_13_method_40_code 6 none 11 1 := ⟨rfl, gm_7 54 rfl rfl, gm_7 56 rfl rfl, gw_mem 79 (by decide +kernel) rfl, gm_1 13 rfl rfl, gm_7 57 rfl rfl, ⟨by decide, by decide, by decide +kernel⟩, by decide⟩
theorem ml_11_272 : VLk cn_11 272 ⟨"SteamNationsModel", "readOne", "()V"⟩ prog_13_method_50_code 1 none 11 0 := ⟨rfl, gm_7 69 rfl rfl, gm_7 71 rfl rfl, gw_mem 81 (by decide +kernel) rfl, gm_1 13 rfl rfl, gm_7 72 rfl rfl, ⟨by decide, by decide, by decide +kernel⟩, by decide⟩
theorem ml_11_275 : VLk cn_11 275 ⟨"SteamNationsModel", "reads", "()Z"⟩ prog_13_method_57_code 2 (some .boolean) 11 0 := ⟨rfl, gm_7 50 rfl rfl, gm_7 52 rfl rfl, gw_mem 78 (by decide +kernel) rfl, gm_1 13 rfl rfl, gm_7 53 rfl rfl, ⟨by decide, by decide, by decide +kernel⟩, by decide⟩
theorem ml_11_278 : VLk cn_11 278 ⟨"SteamNationsModel", "readsAs", "(Z)Z"⟩ prog_13_method_58_code 2 (some .boolean) 11 1 := ⟨rfl, gm_7 46 rfl rfl, gm_7 48 rfl rfl, gw_mem 77 (by decide +kernel) rfl, gm_1 13 rfl rfl, gm_7 49 rfl rfl, ⟨by decide, by decide, by decide +kernel⟩, by decide⟩
theorem ml_11_282 : VLk cn_11 282 ⟨"SteamNationsModel", "lays", "(I)V"⟩ prog_13_method_59_code 3 none 11 1 := ⟨rfl, gm_7 129 rfl rfl, gm_7 131 rfl rfl, gw_mem 96 (by decide +kernel) rfl, gm_1 13 rfl rfl, gm_7 132 rfl rfl, ⟨by decide, by decide, by decide +kernel⟩, by decide⟩
theorem ml_11_285 : VLk cn_11 285 ⟨"SteamNationsModel", "isLaw", "(I)Z"⟩ prog_13_method_62_code 2 (some .boolean) 11 1 := ⟨rfl, gm_7 141 rfl rfl, gm_7 143 rfl rfl, gw_mem 97 (by decide +kernel) rfl, gm_1 13 rfl rfl, gm_7 144 rfl rfl, ⟨by decide, by decide, by decide +kernel⟩, by decide⟩
theorem ml_11_294 : VLk cn_11 294 ⟨"SteamNationsModel", "codeAt", "(I)I"⟩ prog_13_method_64_code 2 (some .int) 11 1 := ⟨rfl, gm_6 176 rfl rfl, gm_6 178 rfl rfl, gw_mem 62 (by decide +kernel) rfl, gm_1 13 rfl rfl, gm_6 179 rfl rfl, ⟨by decide, by decide, by decide +kernel⟩, by decide⟩
theorem ml_11_304 : VLk cn_11 304 ⟨"SteamNationsModel", "termOf", "(Z)J"⟩ prog_13_method_68_code 7 (some .long) 11 1 := ⟨rfl, gm_6 184 rfl rfl, gm_6 186 rfl rfl, gw_mem 64 (by decide +kernel) rfl, gm_1 13 rfl rfl, gm_6 187 rfl rfl, ⟨by decide, by decide, by decide +kernel⟩, by decide⟩
theorem ml_11_308 : VLk cn_11 308 ⟨"SteamNationsModel", "bounded", "(JZ)J"⟩ prog_13_method_66_code 4 (some .long) 11 2 := ⟨rfl, gm_6 211 rfl rfl, gm_6 213 rfl rfl, gw_mem 70 (by decide +kernel) rfl, gm_1 13 rfl rfl, gm_6 214 rfl rfl, ⟨by decide, by decide, by decide +kernel⟩, by decide⟩
theorem ml_11_312 : VLk cn_11 312 ⟨"SteamNationsModel", "partOf", "(Z)J"⟩ prog_13_method_69_code 4 (some .long) 11 1 := ⟨rfl, gm_6 188 rfl rfl, gm_6 190 rfl rfl, gw_mem 65 (by decide +kernel) rfl, gm_1 13 rfl rfl, gm_6 191 rfl rfl, ⟨by decide, by decide, by decide +kernel⟩, by decide⟩
theorem ml_11_315 : VLk cn_11 315 ⟨"SteamNationsModel", "passes0", "(I)Z"⟩ prog_13_method_65_code 3 (some .boolean) 11 1 := ⟨rfl, gm_6 195 rfl rfl, gm_6 197 rfl rfl, gw_mem 66 (by decide +kernel) rfl, gm_1 13 rfl rfl, gm_6 198 rfl rfl, ⟨by decide, by decide, by decide +kernel⟩, by decide⟩
theorem ml_11_318 : VLk cn_11 318 ⟨"SteamNationsModel", "sumOf", "(Z)J"⟩ prog_13_method_67_code 7 (some .long) 11 1 := ⟨rfl, gm_6 180 rfl rfl, gm_6 182 rfl rfl, gw_mem 63 (by decide +kernel) rfl, gm_1 13 rfl rfl, gm_6 183 rfl rfl, ⟨by decide, by decide, by decide +kernel⟩, by decide⟩
theorem ml_11_324 : VLk cn_11 324 ⟨"SteamNationsModel", "orderValue", "(II)I"⟩ prog_13_method_70_code 3 (some .int) 11 2 := ⟨rfl, gm_6 199 rfl rfl, gm_6 201 rfl rfl, gw_mem 67 (by decide +kernel) rfl, gm_1 13 rfl rfl, gm_6 202 rfl rfl, ⟨by decide, by decide, by decide +kernel⟩, by decide⟩
theorem ml_11_333 : VLk cn_11 333 ⟨"SteamNationsModel", "insideMany", "()I"⟩ prog_13_method_78_code 3 (some .int) 11 0 := ⟨rfl, gm_6 203 rfl rfl, gm_6 205 rfl rfl, gw_mem 68 (by decide +kernel) rfl, gm_1 13 rfl rfl, gm_6 206 rfl rfl, ⟨by decide, by decide, by decide +kernel⟩, by decide⟩
theorem ml_11_336 : VLk cn_11 336 ⟨"SteamNationsModel", "pleasedMany", "()I"⟩ prog_13_method_79_code 3 (some .int) 11 0 := ⟨rfl, gm_6 207 rfl rfl, gm_6 209 rfl rfl, gw_mem 69 (by decide +kernel) rfl, gm_1 13 rfl rfl, gm_6 210 rfl rfl, ⟨by decide, by decide, by decide +kernel⟩, by decide⟩
theorem ml_11_339 : VLk cn_11 339 ⟨"SteamNationsModel", "bothOf", "(Z)Z"⟩ prog_13_method_72_code 4 (some .boolean) 11 1 := ⟨rfl, gm_6 221 rfl rfl, gm_6 223 rfl rfl, gw_mem 72 (by decide +kernel) rfl, gm_1 13 rfl rfl, gm_6 224 rfl rfl, ⟨by decide, by decide, by decide +kernel⟩, by decide⟩
theorem ml_11_342 : VLk cn_11 342 ⟨"SteamNationsModel", "plainOf", "(Z)Z"⟩ prog_13_method_73_code 3 (some .boolean) 11 1 := ⟨rfl, gm_6 225 rfl rfl, gm_6 227 rfl rfl, gw_mem 73 (by decide +kernel) rfl, gm_1 13 rfl rfl, gm_6 228 rfl rfl, ⟨by decide, by decide, by decide +kernel⟩, by decide⟩
theorem ml_11_345 : VLk cn_11 345 ⟨"SteamNationsModel", "positiveOf", "(Z)Z"⟩ prog_13_method_74_code 7 (some .boolean) 11 1 := ⟨rfl, gm_6 229 rfl rfl, gm_6 231 rfl rfl, gw_mem 74 (by decide +kernel) rfl, gm_1 13 rfl rfl, gm_6 232 rfl rfl, ⟨by decide, by decide, by decide +kernel⟩, by decide⟩
theorem ml_11_348 : VLk cn_11 348 ⟨"SteamNationsModel", "testOf", "(Z)Z"⟩ prog_13_method_71_code 4 (some .boolean) 11 1 := ⟨rfl, gm_6 217 rfl rfl, gm_6 219 rfl rfl, gw_mem 71 (by decide +kernel) rfl, gm_1 13 rfl rfl, gm_6 220 rfl rfl, ⟨by decide, by decide, by decide +kernel⟩, by decide⟩
theorem ml_11_351 : VLk cn_11 351 ⟨"SteamNationsModel", "setsAsked", "(II)V"⟩ prog_13_method_75_code 3 none 11 2 := ⟨rfl, gm_6 171 rfl rfl, gm_6 173 rfl rfl, gw_mem 61 (by decide +kernel) rfl, gm_1 13 rfl rfl, gm_6 174 rfl rfl, ⟨by decide, by decide, by decide +kernel⟩, by decide⟩
theorem ml_11_358 : SLk cn_11 358 ⟨"SteamNationsModel", "lesser", "(II)I"⟩ prog_13_method_2_code 2 (some .int) 2 := ⟨gm_7 197 rfl rfl, gm_7 198 rfl rfl, gm_1 13 rfl rfl, gm_7 199 rfl rfl, ⟨by decide, by decide, by decide +kernel⟩, by decide⟩
theorem ml_11_361 : VLk cn_11 361 ⟨"SteamNationsModel", "givesAll", "(I)V"⟩ prog_13_method_80_code 7 none 11 1 := ⟨rfl, gm_7 193 rfl rfl, gm_7 195 rfl rfl, gw_mem 105 (by decide +kernel) rfl, gm_1 13 rfl rfl, gm_7 196 rfl rfl, ⟨by decide, by decide, by decide +kernel⟩, by decide⟩
theorem ml_11_364 : VLk cn_11 364 ⟨"SteamNationsModel", "minutePasses", "()V"⟩ prog_13_method_81_code 2 none 11 0 := ⟨rfl, gm_7 189 rfl rfl, gm_7 191 rfl rfl, gw_mem 104 (by decide +kernel) rfl, gm_1 13 rfl rfl, gm_7 192 rfl rfl, ⟨by decide, by decide, by decide +kernel⟩, by decide⟩
theorem ml_11_367 : VLk cn_11 367 ⟨"SteamNationsModel", "keeps", "(I)V"⟩ prog_13_method_83_code 4 none 11 1 := ⟨rfl, gm_7 157 rfl rfl, gm_7 159 rfl rfl, gw_mem 99 (by decide +kernel) rfl, gm_1 13 rfl rfl, gm_7 160 rfl rfl, ⟨by decide, by decide, by decide +kernel⟩, by decide⟩
theorem ml_11_370 : VLk cn_11 370 ⟨"SteamNationsModel", "seatsKept", "(II)I"⟩ prog_13_method_86_code 3 (some .int) 11 2 := ⟨rfl, gm_7 153 rfl rfl, gm_7 155 rfl rfl, gw_mem 98 (by decide +kernel) rfl, gm_1 13 rfl rfl, gm_7 156 rfl rfl, ⟨by decide, by decide, by decide +kernel⟩, by decide⟩
theorem ml_11_373 : VLk cn_11 373 ⟨"SteamNationsModel", "goodOr", "(I)I"⟩ prog_13_method_85_code 2 (some .int) 11 1 := ⟨rfl, gm_7 161 rfl rfl, gm_7 163 rfl rfl, gw_mem 100 (by decide +kernel) rfl, gm_1 13 rfl rfl, gm_7 164 rfl rfl, ⟨by decide, by decide, by decide +kernel⟩, by decide⟩
theorem ml_11_376 : VLk cn_11 376 ⟨"SteamNationsModel", "outKept", "(I)I"⟩ prog_13_method_87_code 3 (some .int) 11 1 := ⟨rfl, gm_7 169 rfl rfl, gm_7 171 rfl rfl, gw_mem 101 (by decide +kernel) rfl, gm_1 13 rfl rfl, gm_7 172 rfl rfl, ⟨by decide, by decide, by decide +kernel⟩, by decide⟩
theorem ml_11_379 : VLk cn_11 379 ⟨"SteamNationsModel", "swapsKept", "(II)I"⟩ prog_13_method_88_code 4 (some .int) 11 2 := ⟨rfl, gm_7 177 rfl rfl, gm_7 179 rfl rfl, gw_mem 102 (by decide +kernel) rfl, gm_1 13 rfl rfl, gm_7 180 rfl rfl, ⟨by decide, by decide, by decide +kernel⟩, by decide⟩
theorem ml_11_382 : VLk cn_11 382 ⟨"SteamNationsModel", "passesKept", "()I"⟩ prog_13_method_89_code 1 (some .int) 11 0 := ⟨rfl, gm_7 185 rfl rfl, gm_7 187 rfl rfl, gw_mem 103 (by decide +kernel) rfl, gm_1 13 rfl rfl, gm_7 188 rfl rfl, ⟨by decide, by decide, by decide +kernel⟩, by decide⟩
theorem ml_11_385 : VLk cn_11 385 ⟨"SteamNationsModel", "laysAside", "(I)V"⟩ prog_13_method_13_code 3 none 11 1 := ⟨rfl, gm_7 204 rfl rfl, gm_7 206 rfl rfl, gw_mem 106 (by decide +kernel) rfl, gm_1 13 rfl rfl, gm_7 207 rfl rfl, ⟨by decide, by decide, by decide +kernel⟩, by decide⟩
theorem ml_11_388 : VLk cn_11 388 ⟨"SteamNationsModel", "passMinutes", "(I)V"⟩ prog_13_method_82_code 3 none 11 1 := ⟨rfl, gm_7 208 rfl rfl, gm_7 210 rfl rfl, gw_mem 107 (by decide +kernel) rfl, gm_1 13 rfl rfl, gm_7 211 rfl rfl, ⟨by decide, by decide, by decide +kernel⟩, by decide⟩
theorem ml_11_391 : VLk cn_11 391 ⟨"SteamNationsModel", "takesBack", "(I)V"⟩ prog_13_method_14_code 3 none 11 1 := ⟨rfl, gm_7 212 rfl rfl, gm_7 214 rfl rfl, gw_mem 108 (by decide +kernel) rfl, gm_1 13 rfl rfl, gm_7 215 rfl rfl, ⟨by decide, by decide, by decide +kernel⟩, by decide⟩
theorem ml_11_394 : VLk cn_11 394 ⟨"SteamNationsModel", "areOne", "()Z"⟩ prog_13_method_96_code 3 (some .boolean) 11 0 := ⟨rfl, gm_7 224 rfl rfl, gm_7 226 rfl rfl, gw_mem 109 (by decide +kernel) rfl, gm_1 13 rfl rfl, gm_7 227 rfl rfl, ⟨by decide, by decide, by decide +kernel⟩, by decide⟩
theorem ml_11_403 : SLk cn_11 403 ⟨"SteamNationsModel", "isIn", "(II)Z"⟩ prog_13_method_7_code 2 (some .boolean) 2 := ⟨gm_8 4 rfl rfl, gm_8 5 rfl rfl, gm_1 13 rfl rfl, gm_8 6 rfl rfl, ⟨by decide, by decide, by decide +kernel⟩, by decide⟩
theorem ml_11_406 : VLk cn_11 406 ⟨"SteamNationsModel", "laysHolders", "()V"⟩ prog_13_method_98_code 3 none 11 0 := ⟨rfl, gm_7 236 rfl rfl, gm_7 238 rfl rfl, gw_mem 111 (by decide +kernel) rfl, gm_1 13 rfl rfl, gm_7 239 rfl rfl, ⟨by decide, by decide, by decide +kernel⟩, by decide⟩
theorem ml_11_409 : VLk cn_11 409 ⟨"SteamNationsModel", "seatsAll", "(I)V"⟩ prog_13_method_99_code 8 none 11 1 := ⟨rfl, gm_8 0 rfl rfl, gm_8 2 rfl rfl, gw_mem 112 (by decide +kernel) rfl, gm_1 13 rfl rfl, gm_8 3 rfl rfl, ⟨by decide, by decide, by decide +kernel⟩, by decide⟩
theorem ml_11_412 : SLk cn_11 412 ⟨"SteamNationsModel", "greater", "(II)I"⟩ prog_13_method_3_code 2 (some .int) 2 := ⟨gm_8 7 rfl rfl, gm_8 8 rfl rfl, gm_1 13 rfl rfl, gm_8 9 rfl rfl, ⟨by decide, by decide, by decide +kernel⟩, by decide⟩
theorem ml_11_415 : VLk cn_11 415 ⟨"SteamNationsModel", "laysPleased", "(I)I"⟩ prog_13_method_101_code 4 (some .int) 11 1 := ⟨rfl, gm_7 232 rfl rfl, gm_7 234 rfl rfl, gw_mem 110 (by decide +kernel) rfl, gm_1 13 rfl rfl, gm_7 235 rfl rfl, ⟨by decide, by decide, by decide +kernel⟩, by decide⟩
theorem ml_11_418 : VLk cn_11 418 ⟨"SteamNationsModel", "swapsTwo", "(II)V"⟩ prog_13_method_103_code 4 none 11 2 := ⟨rfl, gm_8 22 rfl rfl, gm_8 24 rfl rfl, gw_mem 115 (by decide +kernel) rfl, gm_1 13 rfl rfl, gm_8 25 rfl rfl, ⟨by decide, by decide, by decide +kernel⟩, by decide⟩
theorem ml_11_421 : VLk cn_11 421 ⟨"SteamNationsModel", "seatingNow", "()I"⟩ prog_13_method_100_code 5 (some .int) 11 0 := ⟨rfl, gm_8 26 rfl rfl, gm_8 28 rfl rfl, gw_mem 116 (by decide +kernel) rfl, gm_1 13 rfl rfl, gm_8 29 rfl rfl, ⟨by decide, by decide, by decide +kernel⟩, by decide⟩
theorem ml_11_424 : VLk cn_11 424 ⟨"SteamNationsModel", "swapped", "(II)I"⟩ prog_13_method_104_code 6 (some .int) 11 2 := ⟨rfl, gm_8 18 rfl rfl, gm_8 20 rfl rfl, gw_mem 114 (by decide +kernel) rfl, gm_1 13 rfl rfl, gm_8 21 rfl rfl, ⟨by decide, by decide, by decide +kernel⟩, by decide⟩
theorem ml_11_427 : VLk cn_11 427 ⟨"SteamNationsModel", "laysSwaps", "(I)V"⟩ prog_13_method_105_code 7 none 11 1 := ⟨rfl, gm_8 14 rfl rfl, gm_8 16 rfl rfl, gw_mem 113 (by decide +kernel) rfl, gm_1 13 rfl rfl, gm_8 17 rfl rfl, ⟨by decide, by decide, by decide +kernel⟩, by decide⟩
theorem ml_11_430 : VLk cn_11 430 ⟨"SteamNationsModel", "firstTwo", "(I)I"⟩ prog_13_method_106_code 5 (some .int) 11 1 := ⟨rfl, gm_8 30 rfl rfl, gm_8 32 rfl rfl, gw_mem 117 (by decide +kernel) rfl, gm_1 13 rfl rfl, gm_8 33 rfl rfl, ⟨by decide, by decide, by decide +kernel⟩, by decide⟩
theorem ml_11_433 : VLk cn_11 433 ⟨"SteamNationsModel", "isSoAt", "(I)Z"⟩ prog_13_method_110_code 4 (some .boolean) 11 1 := ⟨rfl, gm_8 50 rfl rfl, gm_8 52 rfl rfl, gw_mem 119 (by decide +kernel) rfl, gm_1 13 rfl rfl, gm_8 53 rfl rfl, ⟨by decide, by decide, by decide +kernel⟩, by decide⟩
theorem ml_11_436 : VLk cn_11 436 ⟨"SteamNationsModel", "laysSat", "(I)I"⟩ prog_13_method_111_code 7 (some .int) 11 1 := ⟨rfl, gm_8 46 rfl rfl, gm_8 48 rfl rfl, gw_mem 118 (by decide +kernel) rfl, gm_1 13 rfl rfl, gm_8 49 rfl rfl, ⟨by decide, by decide, by decide +kernel⟩, by decide⟩
theorem ml_11_439 : VLk cn_11 439 ⟨"SteamNationsModel", "mostAlike", "(I)I"⟩ prog_13_method_113_code 3 (some .int) 11 1 := ⟨rfl, gm_8 58 rfl rfl, gm_8 60 rfl rfl, gw_mem 120 (by decide +kernel) rfl, gm_1 13 rfl rfl, gm_8 61 rfl rfl, ⟨by decide, by decide, by decide +kernel⟩, by decide⟩
theorem ml_11_442 : VLk cn_11 442 ⟨"SteamNationsModel", "common", "(II)I"⟩ prog_13_method_115_code 5 (some .int) 11 2 := ⟨rfl, gm_8 73 rfl rfl, gm_8 75 rfl rfl, gw_mem 122 (by decide +kernel) rfl, gm_1 13 rfl rfl, gm_8 76 rfl rfl, ⟨by decide, by decide, by decide +kernel⟩, by decide⟩
theorem ml_11_445 : SLk cn_11 445 ⟨"SteamNationsModel", "ones", "(I)I"⟩ prog_13_method_8_code 3 (some .int) 1 := ⟨gm_8 66 rfl rfl, gm_8 67 rfl rfl, gm_1 13 rfl rfl, gm_8 68 rfl rfl, ⟨by decide, by decide, by decide +kernel⟩, by decide⟩
theorem ml_11_448 : VLk cn_11 448 ⟨"SteamNationsModel", "isTreaty", "(II)Z"⟩ prog_13_method_116_code 6 (some .boolean) 11 2 := ⟨rfl, gm_8 69 rfl rfl, gm_8 71 rfl rfl, gw_mem 121 (by decide +kernel) rfl, gm_1 13 rfl rfl, gm_8 72 rfl rfl, ⟨by decide, by decide, by decide +kernel⟩, by decide⟩
theorem ml_11_451 : VLk cn_11 451 ⟨"SteamNationsModel", "drops", "()V"⟩ prog_13_method_118_code 3 none 11 0 := ⟨rfl, gm_8 81 rfl rfl, gm_8 83 rfl rfl, gw_mem 123 (by decide +kernel) rfl, gm_1 13 rfl rfl, gm_8 84 rfl rfl, ⟨by decide, by decide, by decide +kernel⟩, by decide⟩
theorem ml_11_461 : VLk cn_11 461 ⟨"SteamNationsModel", "runs", "(I)Z"⟩ prog_13_method_127_code 5 (some .boolean) 11 1 := ⟨rfl, gm_8 103 rfl rfl, gm_8 105 rfl rfl, gw_mem 124 (by decide +kernel) rfl, gm_1 13 rfl rfl, gm_8 106 rfl rfl, ⟨by decide, by decide, by decide +kernel⟩, by decide⟩
theorem ml_11_478 : SLk cn_11 478 ⟨"SteamNationsModel", "small", "(J)I"⟩ prog_13_method_125_code 2 (some .int) 1 := ⟨gm_8 115 rfl rfl, gm_8 116 rfl rfl, gm_1 13 rfl rfl, gm_8 117 rfl rfl, ⟨by decide, by decide, by decide +kernel⟩, by decide⟩
theorem ml_11_482 : VLk cn_11 482 ⟨"SteamNationsModel", "goesAlong", "(IZ)V"⟩ prog_13_method_124_code 5 none 11 2 := ⟨rfl, gm_8 107 rfl rfl, gm_8 109 rfl rfl, gw_mem 125 (by decide +kernel) rfl, gm_1 13 rfl rfl, gm_8 110 rfl rfl, ⟨by decide, by decide, by decide +kernel⟩, by decide⟩
theorem ml_11_486 : VLk cn_11 486 ⟨"SteamNationsModel", "obeys", "()I"⟩ prog_13_method_126_code 3 (some .int) 11 0 := ⟨rfl, gm_8 111 rfl rfl, gm_8 113 rfl rfl, gw_mem 126 (by decide +kernel) rfl, gm_1 13 rfl rfl, gm_8 114 rfl rfl, ⟨by decide, by decide, by decide +kernel⟩, by decide⟩
theorem ml_11_498 : VLk cn_11 498 ⟨"SteamNationsModel", "draws", "(I)I"⟩ prog_13_method_128_code 2 (some .int) 11 1 := ⟨rfl, gm_8 127 rfl rfl, gm_8 129 rfl rfl, gw_mem 128 (by decide +kernel) rfl, gm_1 13 rfl rfl, gm_8 130 rfl rfl, ⟨by decide, by decide, by decide +kernel⟩, by decide⟩
theorem ml_11_501 : VLk cn_11 501 ⟨"SteamNationsModel", "minuteIsDrawn", "()V"⟩ prog_13_method_129_code 4 none 11 0 := ⟨rfl, gm_8 123 rfl rfl, gm_8 125 rfl rfl, gw_mem 127 (by decide +kernel) rfl, gm_1 13 rfl rfl, gm_8 126 rfl rfl, ⟨by decide, by decide, by decide +kernel⟩, by decide⟩
theorem ml_11_504 : VLk cn_11 504 ⟨"SteamNationsModel", "allOf", "(I)I"⟩ prog_13_method_132_code 4 (some .int) 11 1 := ⟨rfl, gm_8 142 rfl rfl, gm_8 144 rfl rfl, gw_mem 129 (by decide +kernel) rfl, gm_1 13 rfl rfl, gm_8 145 rfl rfl, ⟨by decide, by decide, by decide +kernel⟩, by decide⟩
theorem ml_JString_495 : SLk "java/lang/String" 495 ⟨"java/lang/StringLatin1", "charAt", "([BI)C"⟩ prog_18_method_2_code 2 (some .char) 2 := ⟨gm_3 103 rfl rfl, gm_3 104 rfl rfl, gm_1 16 rfl rfl, gm_3 105 rfl rfl, ⟨by decide, by decide, by decide +kernel⟩, by decide⟩
theorem ml_JString_498 : SLk "java/lang/String" 498 ⟨"java/lang/StringUTF16", "charAt", "([BI)C"⟩ prog_19_method_83_code 2 (some .char) 2 := ⟨gm_3 114 rfl rfl, gm_3 115 rfl rfl, gm_1 18 rfl rfl, gm_3 116 rfl rfl, ⟨by decide, by decide, by decide +kernel⟩, by decide⟩
theorem ml_JString_1059 : SLk "java/lang/String" 1059 ⟨"jdk/internal/util/Preconditions", "checkIndex", "(IILjava/util/function/BiFunction;)I"⟩ prog_22_method_11_code 3 (some .int) 3 := ⟨gm_3 111 rfl rfl, gm_3 112 rfl rfl, gm_1 17 rfl rfl, gm_3 113 rfl rfl, ⟨by decide, by decide, by decide +kernel⟩, by decide⟩
theorem ml_JStringLatin1_9 : SLk "java/lang/StringLatin1" 9 ⟨"java/lang/String", "checkIndex", "(II)V"⟩ prog_17_method_155_code 2 none 2 := ⟨gm_3 106 rfl rfl, gm_3 107 rfl rfl, gm_1 15 rfl rfl, gm_3 108 rfl rfl, ⟨by decide, by decide, by decide +kernel⟩, by decide⟩
theorem ml_JStringUTF16_48 : SLk "java/lang/StringUTF16" 48 ⟨"java/lang/StringUTF16", "length", "([B)I"⟩ prog_19_method_6_code 1 (some .int) 1 := ⟨gm_3 120 rfl rfl, gm_3 121 rfl rfl, gm_1 18 rfl rfl, gm_3 122 rfl rfl, ⟨by decide, by decide, by decide +kernel⟩, by decide⟩
theorem ml_JStringUTF16_67 : SLk "java/lang/StringUTF16" 67 ⟨"java/lang/StringUTF16", "checkIndex", "(I[B)V"⟩ prog_19_method_91_code 2 none 2 := ⟨gm_3 117 rfl rfl, gm_3 118 rfl rfl, gm_1 18 rfl rfl, gm_3 119 rfl rfl, ⟨by decide, by decide, by decide +kernel⟩, by decide⟩
theorem ml_JStringUTF16_71 : SLk "java/lang/StringUTF16" 71 ⟨"java/lang/StringUTF16", "getChar", "([BI)C"⟩ prog_19_method_5_code 2 (some .char) 2 := ⟨gm_3 124 rfl rfl, gm_3 125 rfl rfl, gm_1 18 rfl rfl, gm_3 126 rfl rfl, ⟨by decide, by decide, by decide +kernel⟩, by decide⟩
theorem ml_JStringUTF16_414 : SLk "java/lang/StringUTF16" 414 ⟨"java/lang/String", "checkIndex", "(II)V"⟩ prog_17_method_155_code 2 none 2 := ⟨gm_3 123 rfl rfl, gm_3 107 rfl rfl, gm_1 15 rfl rfl, gm_3 108 rfl rfl, ⟨by decide, by decide, by decide +kernel⟩, by decide⟩
theorem ml_JArrays_304 : SLk "java/util/Arrays" 304 ⟨"java/lang/Math", "min", "(II)I"⟩ prog_16_method_69_code 2 (some .int) 2 := ⟨gm_4 2 rfl rfl, gm_2 228 rfl rfl, gm_1 14 rfl rfl, gm_2 229 rfl rfl, ⟨by decide, by decide, by decide +kernel⟩, by decide⟩
theorem kc_10_335 : Cond.constant cn_10 335 (1000000) ∈ gw := gm_5 102 rfl rfl
theorem kc_10_339 : Cond.constantLong cn_10 339 (-1) ∈ gw := gm_5 112 rfl rfl
theorem kc_10_344 : Cond.constantLong cn_10 344 (1000000000000) ∈ gw := gm_5 116 rfl rfl
theorem kc_10_346 : Cond.constantLong cn_10 346 (10) ∈ gw := gm_5 117 rfl rfl
theorem kc_10_386 : Cond.constant cn_10 386 (1000003) ∈ gw := gm_5 131 rfl rfl
theorem kc_0_86 : Cond.constant cn_0 86 (-2147483648) ∈ gw := gm_4 52 rfl rfl
theorem kc_2_39 : Cond.constant cn_2 39 (-2147483648) ∈ gw := gm_2 233 rfl rfl
theorem kc_2_48 : Cond.constantLong cn_2 48 (1000000000) ∈ gw := gm_3 1 rfl rfl
theorem kc_2_50 : Cond.constantLong cn_2 50 (-1000000000) ∈ gw := gm_3 2 rfl rfl
theorem kc_8_54 : Cond.constant cn_8 54 (-2147483648) ∈ gw := gm_3 28 rfl rfl
theorem kc_11_200 : Cond.constant cn_11 200 (1000000) ∈ gw := gm_7 68 rfl rfl
theorem kc_11_297 : Cond.constantLong cn_11 297 (1000000000) ∈ gw := gm_6 215 rfl rfl
theorem kc_11_299 : Cond.constantLong cn_11 299 (-1000000000) ∈ gw := gm_6 216 rfl rfl
theorem kc_11_354 : Cond.constantLong cn_11 354 (-1) ∈ gw := gm_6 175 rfl rfl
theorem kc_11_356 : Cond.constantLong cn_11 356 (9) ∈ gw := gm_6 233 rfl rfl
theorem kc_11_454 : Cond.constantLong cn_11 454 (1000000000000) ∈ gw := gm_8 89 rfl rfl
theorem kc_11_456 : Cond.constantLong cn_11 456 (10) ∈ gw := gm_8 90 rfl rfl
theorem kc_11_476 : Cond.constantLong cn_11 476 (1000000) ∈ gw := gm_8 118 rfl rfl
theorem kc_11_489 : Cond.constantLong cn_11 489 (1103) ∈ gw := gm_8 131 rfl rfl
theorem kc_11_494 : Cond.constantLong cn_11 494 (12345) ∈ gw := gm_8 132 rfl rfl
theorem kc_11_496 : Cond.constantLong cn_11 496 (1000003) ∈ gw := gm_8 133 rfl rfl
theorem kc_J_265 : Cond.constant "java/lang/Integer" 265 (1431655765) ∈ gw := gm_5 85 rfl rfl
theorem kc_J_266 : Cond.constant "java/lang/Integer" 266 (858993459) ∈ gw := gm_5 86 rfl rfl
theorem kc_J_267 : Cond.constant "java/lang/Integer" 267 (252645135) ∈ gw := gm_5 87 rfl rfl
theorem ic_m1 : Int32.ofInt (-1) = (-1 : Int32) := by decide
theorem ic_0 : Int32.ofInt (0) = (0 : Int32) := by decide
theorem ic_1 : Int32.ofInt (1) = (1 : Int32) := by decide
theorem ic_4 : Int32.ofInt (4) = (4 : Int32) := by decide
theorem bp_m3 : (Int8.ofInt (-3)).toInt32 = (-3 : Int32) := by decide
theorem ic_2 : Int32.ofInt (2) = (2 : Int32) := by decide
theorem ic_3 : Int32.ofInt (3) = (3 : Int32) := by decide
theorem bp_6 : (Int8.ofInt (6)).toInt32 = (6 : Int32) := by decide
theorem bp_8 : (Int8.ofInt (8)).toInt32 = (8 : Int32) := by decide
theorem bp_9 : (Int8.ofInt (9)).toInt32 = (9 : Int32) := by decide
theorem bp_10 : (Int8.ofInt (10)).toInt32 = (10 : Int32) := by decide
theorem bp_11 : (Int8.ofInt (11)).toInt32 = (11 : Int32) := by decide
theorem bp_12 : (Int8.ofInt (12)).toInt32 = (12 : Int32) := by decide
theorem bp_18 : (Int8.ofInt (18)).toInt32 = (18 : Int32) := by decide
theorem bp_m5 : (Int8.ofInt (-5)).toInt32 = (-5 : Int32) := by decide
theorem bp_24 : (Int8.ofInt (24)).toInt32 = (24 : Int32) := by decide
theorem bp_64 : (Int8.ofInt (64)).toInt32 = (64 : Int32) := by decide
theorem ic_5 : Int32.ofInt (5) = (5 : Int32) := by decide
theorem bp_m2 : (Int8.ofInt (-2)).toInt32 = (-2 : Int32) := by decide
theorem sp_999 : (Int16.ofInt (999)).toInt32 = (999 : Int32) := by decide
theorem sp_416 : (Int16.ofInt (416)).toInt32 = (416 : Int32) := by decide
theorem bp_26 : (Int8.ofInt (26)).toInt32 = (26 : Int32) := by decide
theorem bp_16 : (Int8.ofInt (16)).toInt32 = (16 : Int32) := by decide
theorem sp_401 : (Int16.ofInt (401)).toInt32 = (401 : Int32) := by decide
theorem sp_800 : (Int16.ofInt (800)).toInt32 = (800 : Int32) := by decide
theorem bp_72 : (Int8.ofInt (72)).toInt32 = (72 : Int32) := by decide
theorem bp_29 : (Int8.ofInt (29)).toInt32 = (29 : Int32) := by decide
theorem bp_59 : (Int8.ofInt (59)).toInt32 = (59 : Int32) := by decide
theorem sp_400 : (Int16.ofInt (400)).toInt32 = (400 : Int32) := by decide
theorem bp_32 : (Int8.ofInt (32)).toInt32 = (32 : Int32) := by decide
theorem bp_28 : (Int8.ofInt (28)).toInt32 = (28 : Int32) := by decide
theorem bp_100 : (Int8.ofInt (100)).toInt32 = (100 : Int32) := by decide
theorem bp_97 : (Int8.ofInt (97)).toInt32 = (97 : Int32) := by decide
theorem bp_122 : (Int8.ofInt (122)).toInt32 = (122 : Int32) := by decide
theorem bp_48 : (Int8.ofInt (48)).toInt32 = (48 : Int32) := by decide
theorem bp_57 : (Int8.ofInt (57)).toInt32 = (57 : Int32) := by decide
theorem bp_27 : (Int8.ofInt (27)).toInt32 = (27 : Int32) := by decide
theorem sp_1001 : (Int16.ofInt (1001)).toInt32 = (1001 : Int32) := by decide
theorem bp_13 : (Int8.ofInt (13)).toInt32 = (13 : Int32) := by decide
theorem bp_14 : (Int8.ofInt (14)).toInt32 = (14 : Int32) := by decide
theorem bp_15 : (Int8.ofInt (15)).toInt32 = (15 : Int32) := by decide
theorem bp_17 : (Int8.ofInt (17)).toInt32 = (17 : Int32) := by decide
theorem bp_19 : (Int8.ofInt (19)).toInt32 = (19 : Int32) := by decide
theorem bp_20 : (Int8.ofInt (20)).toInt32 = (20 : Int32) := by decide
theorem bp_21 : (Int8.ofInt (21)).toInt32 = (21 : Int32) := by decide
theorem bp_22 : (Int8.ofInt (22)).toInt32 = (22 : Int32) := by decide
theorem bp_23 : (Int8.ofInt (23)).toInt32 = (23 : Int32) := by decide
theorem bp_25 : (Int8.ofInt (25)).toInt32 = (25 : Int32) := by decide
theorem bp_40 : (Int8.ofInt (40)).toInt32 = (40 : Int32) := by decide
theorem bp_41 : (Int8.ofInt (41)).toInt32 = (41 : Int32) := by decide
theorem bp_60 : (Int8.ofInt (60)).toInt32 = (60 : Int32) := by decide
theorem bp_7 : (Int8.ofInt (7)).toInt32 = (7 : Int32) := by decide
theorem bp_62 : (Int8.ofInt (62)).toInt32 = (62 : Int32) := by decide
theorem bp_61 : (Int8.ofInt (61)).toInt32 = (61 : Int32) := by decide
theorem bp_43 : (Int8.ofInt (43)).toInt32 = (43 : Int32) := by decide
theorem bp_45 : (Int8.ofInt (45)).toInt32 = (45 : Int32) := by decide
theorem bp_42 : (Int8.ofInt (42)).toInt32 = (42 : Int32) := by decide
theorem bp_47 : (Int8.ofInt (47)).toInt32 = (47 : Int32) := by decide
theorem bp_37 : (Int8.ofInt (37)).toInt32 = (37 : Int32) := by decide
theorem bp_91 : (Int8.ofInt (91)).toInt32 = (91 : Int32) := by decide
theorem bp_93 : (Int8.ofInt (93)).toInt32 = (93 : Int32) := by decide
theorem bp_50 : (Int8.ofInt (50)).toInt32 = (50 : Int32) := by decide
theorem sp_1000 : (Int16.ofInt (1000)).toInt32 = (1000 : Int32) := by decide
theorem sp_720 : (Int16.ofInt (720)).toInt32 = (720 : Int32) := by decide
theorem sp_7200 : (Int16.ofInt (7200)).toInt32 = (7200 : Int32) := by decide
theorem bp_m6 : (Int8.ofInt (-6)).toInt32 = (-6 : Int32) := by decide
theorem bp_99 : (Int8.ofInt (99)).toInt32 = (99 : Int32) := by decide
theorem sp_255 : (Int16.ofInt (255)).toInt32 = (255 : Int32) := by decide
theorem sp_1103 : (Int16.ofInt (1103)).toInt32 = (1103 : Int32) := by decide
theorem sp_12345 : (Int16.ofInt (12345)).toInt32 = (12345 : Int32) := by decide
theorem sp_5662 : (Int16.ofInt (5662)).toInt32 = (5662 : Int32) := by decide
theorem sp_11324 : (Int16.ofInt (11324)).toInt32 = (11324 : Int32) := by decide
theorem sp_144 : (Int16.ofInt (144)).toInt32 = (144 : Int32) := by decide
theorem bp_112 : (Int8.ofInt (112)).toInt32 = (112 : Int32) := by decide
theorem bp_115 : (Int8.ofInt (115)).toInt32 = (115 : Int32) := by decide
theorem bp_101 : (Int8.ofInt (101)).toInt32 = (101 : Int32) := by decide
theorem bp_107 : (Int8.ofInt (107)).toInt32 = (107 : Int32) := by decide
theorem bp_108 : (Int8.ofInt (108)).toInt32 = (108 : Int32) := by decide
theorem bp_118 : (Int8.ofInt (118)).toInt32 = (118 : Int32) := by decide
theorem bp_105 : (Int8.ofInt (105)).toInt32 = (105 : Int32) := by decide
theorem bp_102 : (Int8.ofInt (102)).toInt32 = (102 : Int32) := by decide
theorem bp_111 : (Int8.ofInt (111)).toInt32 = (111 : Int32) := by decide
theorem bp_114 : (Int8.ofInt (114)).toInt32 = (114 : Int32) := by decide
theorem bp_110 : (Int8.ofInt (110)).toInt32 = (110 : Int32) := by decide
theorem bp_30 : (Int8.ofInt (30)).toInt32 = (30 : Int32) := by decide
theorem bp_31 : (Int8.ofInt (31)).toInt32 = (31 : Int32) := by decide
theorem bp_116 : (Int8.ofInt (116)).toInt32 = (116 : Int32) := by decide
theorem bp_33 : (Int8.ofInt (33)).toInt32 = (33 : Int32) := by decide
theorem bp_34 : (Int8.ofInt (34)).toInt32 = (34 : Int32) := by decide
theorem bp_35 : (Int8.ofInt (35)).toInt32 = (35 : Int32) := by decide
theorem bp_36 : (Int8.ofInt (36)).toInt32 = (36 : Int32) := by decide
theorem bp_38 : (Int8.ofInt (38)).toInt32 = (38 : Int32) := by decide
theorem bp_39 : (Int8.ofInt (39)).toInt32 = (39 : Int32) := by decide
theorem bp_104 : (Int8.ofInt (104)).toInt32 = (104 : Int32) := by decide
theorem bp_44 : (Int8.ofInt (44)).toInt32 = (44 : Int32) := by decide
theorem bp_46 : (Int8.ofInt (46)).toInt32 = (46 : Int32) := by decide
theorem bp_49 : (Int8.ofInt (49)).toInt32 = (49 : Int32) := by decide
theorem bp_51 : (Int8.ofInt (51)).toInt32 = (51 : Int32) := by decide
theorem bp_52 : (Int8.ofInt (52)).toInt32 = (52 : Int32) := by decide
theorem bp_53 : (Int8.ofInt (53)).toInt32 = (53 : Int32) := by decide
theorem bp_54 : (Int8.ofInt (54)).toInt32 = (54 : Int32) := by decide
theorem bp_55 : (Int8.ofInt (55)).toInt32 = (55 : Int32) := by decide
theorem bp_56 : (Int8.ofInt (56)).toInt32 = (56 : Int32) := by decide
theorem bp_58 : (Int8.ofInt (58)).toInt32 = (58 : Int32) := by decide
theorem bp_119 : (Int8.ofInt (119)).toInt32 = (119 : Int32) := by decide
theorem bp_63 : (Int8.ofInt (63)).toInt32 = (63 : Int32) := by decide
theorem bp_109 : (Int8.ofInt (109)).toInt32 = (109 : Int32) := by decide
theorem bp_65 : (Int8.ofInt (65)).toInt32 = (65 : Int32) := by decide
theorem bp_66 : (Int8.ofInt (66)).toInt32 = (66 : Int32) := by decide
theorem bp_67 : (Int8.ofInt (67)).toInt32 = (67 : Int32) := by decide
theorem bp_68 : (Int8.ofInt (68)).toInt32 = (68 : Int32) := by decide
theorem bp_69 : (Int8.ofInt (69)).toInt32 = (69 : Int32) := by decide
theorem bp_70 : (Int8.ofInt (70)).toInt32 = (70 : Int32) := by decide
theorem bp_117 : (Int8.ofInt (117)).toInt32 = (117 : Int32) := by decide
theorem bp_71 : (Int8.ofInt (71)).toInt32 = (71 : Int32) := by decide
theorem bp_73 : (Int8.ofInt (73)).toInt32 = (73 : Int32) := by decide
theorem bp_74 : (Int8.ofInt (74)).toInt32 = (74 : Int32) := by decide
theorem bp_75 : (Int8.ofInt (75)).toInt32 = (75 : Int32) := by decide
theorem bp_76 : (Int8.ofInt (76)).toInt32 = (76 : Int32) := by decide
theorem bp_77 : (Int8.ofInt (77)).toInt32 = (77 : Int32) := by decide
theorem bp_78 : (Int8.ofInt (78)).toInt32 = (78 : Int32) := by decide
theorem bp_79 : (Int8.ofInt (79)).toInt32 = (79 : Int32) := by decide
theorem bp_80 : (Int8.ofInt (80)).toInt32 = (80 : Int32) := by decide
theorem bp_81 : (Int8.ofInt (81)).toInt32 = (81 : Int32) := by decide
theorem bp_82 : (Int8.ofInt (82)).toInt32 = (82 : Int32) := by decide
theorem bp_83 : (Int8.ofInt (83)).toInt32 = (83 : Int32) := by decide
theorem bp_84 : (Int8.ofInt (84)).toInt32 = (84 : Int32) := by decide
theorem bp_85 : (Int8.ofInt (85)).toInt32 = (85 : Int32) := by decide
theorem bp_86 : (Int8.ofInt (86)).toInt32 = (86 : Int32) := by decide
theorem bp_87 : (Int8.ofInt (87)).toInt32 = (87 : Int32) := by decide
theorem bp_88 : (Int8.ofInt (88)).toInt32 = (88 : Int32) := by decide
theorem bp_89 : (Int8.ofInt (89)).toInt32 = (89 : Int32) := by decide
theorem bp_90 : (Int8.ofInt (90)).toInt32 = (90 : Int32) := by decide
theorem bp_92 : (Int8.ofInt (92)).toInt32 = (92 : Int32) := by decide
theorem bp_94 : (Int8.ofInt (94)).toInt32 = (94 : Int32) := by decide
theorem bp_95 : (Int8.ofInt (95)).toInt32 = (95 : Int32) := by decide
theorem bp_96 : (Int8.ofInt (96)).toInt32 = (96 : Int32) := by decide
theorem bp_98 : (Int8.ofInt (98)).toInt32 = (98 : Int32) := by decide
theorem bp_103 : (Int8.ofInt (103)).toInt32 = (103 : Int32) := by decide
theorem bp_106 : (Int8.ofInt (106)).toInt32 = (106 : Int32) := by decide
theorem bp_113 : (Int8.ofInt (113)).toInt32 = (113 : Int32) := by decide
theorem bp_120 : (Int8.ofInt (120)).toInt32 = (120 : Int32) := by decide
theorem bp_121 : (Int8.ofInt (121)).toInt32 = (121 : Int32) := by decide
theorem bp_123 : (Int8.ofInt (123)).toInt32 = (123 : Int32) := by decide
theorem bp_124 : (Int8.ofInt (124)).toInt32 = (124 : Int32) := by decide
theorem bp_125 : (Int8.ofInt (125)).toInt32 = (125 : Int32) := by decide
theorem bp_126 : (Int8.ofInt (126)).toInt32 = (126 : Int32) := by decide
theorem bp_127 : (Int8.ofInt (127)).toInt32 = (127 : Int32) := by decide
theorem sp_128 : (Int16.ofInt (128)).toInt32 = (128 : Int32) := by decide
theorem sp_129 : (Int16.ofInt (129)).toInt32 = (129 : Int32) := by decide
theorem sp_130 : (Int16.ofInt (130)).toInt32 = (130 : Int32) := by decide
theorem sp_131 : (Int16.ofInt (131)).toInt32 = (131 : Int32) := by decide
theorem sp_132 : (Int16.ofInt (132)).toInt32 = (132 : Int32) := by decide
theorem sp_133 : (Int16.ofInt (133)).toInt32 = (133 : Int32) := by decide
theorem sp_134 : (Int16.ofInt (134)).toInt32 = (134 : Int32) := by decide
theorem sp_135 : (Int16.ofInt (135)).toInt32 = (135 : Int32) := by decide
theorem sp_136 : (Int16.ofInt (136)).toInt32 = (136 : Int32) := by decide
theorem sp_137 : (Int16.ofInt (137)).toInt32 = (137 : Int32) := by decide
theorem sp_138 : (Int16.ofInt (138)).toInt32 = (138 : Int32) := by decide
theorem sp_139 : (Int16.ofInt (139)).toInt32 = (139 : Int32) := by decide
theorem sp_140 : (Int16.ofInt (140)).toInt32 = (140 : Int32) := by decide
theorem sp_141 : (Int16.ofInt (141)).toInt32 = (141 : Int32) := by decide
theorem sp_142 : (Int16.ofInt (142)).toInt32 = (142 : Int32) := by decide
theorem sp_143 : (Int16.ofInt (143)).toInt32 = (143 : Int32) := by decide
theorem sp_4320 : (Int16.ofInt (4320)).toInt32 = (4320 : Int32) := by decide
theorem sp_2862 : (Int16.ofInt (2862)).toInt32 = (2862 : Int32) := by decide
theorem sp_2400 : (Int16.ofInt (2400)).toInt32 = (2400 : Int32) := by decide
theorem dat {b : ByteArray} {L : List (Nat × Instr × Nat)} (H : ∀ q ∈ L, decode b q.1 = .ok q.2) (i : Nat) {pc len : Nat} {ins : Instr} (h : L[i]? = some (pc, ins, len)) : decode b pc = .ok (ins, len) := H (pc, ins, len) (List.mem_of_getElem? h)
end
section
theorem ac_nat : Cond.native arraycopyName ∈ gw := gm_1 101 rfl rfl
theorem ac_st : Cond.static arraycopyName ∈ gw := gm_1 100 rfl rfl
theorem ac_in : Cond.initialized "java/lang/System" ∈ gw := gm_1 5 rfl rfl
section GX
variable {X : Xt} {own : String} {cc : ByteArray} {nL : Nat} {rt : Option FieldType} {D mc ms : Nat} {h : Hp} {k n pc : Nat} {lv : List (Nat × Value)} {st : List Value}
theorem g_cVi {y : MethodName} {bytes : ByteArray} {mL nA D' idx : Nat} {fs : List (Option Nat)} {ci a : Nat} {ret : Option FieldType} {x : Int32} {rest : List Value} {h1 : Hp} (As : List Value) (C : Cx X own cc nL rt D mc ms) (hd : decode cc pc = .ok (.invokevirtual idx, 3)) (L : VLk own idx y bytes mL ret ci nA) (hm : MetA y bytes mL ret D' 0 0 (.ref a :: As) h (some (.int x)) h1) (hk : kd a = .inl (ci, fs)) (ha : a < 110 ∨ a < sz h) (hst : st = As.reverse ++ .ref a :: rest) (hn : As.length = nA) (hcat : (rest.map fun v => v.category).sum ≤ 8) (hD : D' + 1 ≤ D) (hc : k ≤ mc ∧ n ≤ ms) (next : G X h1 k n (pc + 3) lv (.int x :: rest)) : G X h k n pc lv st :=
  g_callV C hd L hm hk ha hst hn hcat hD ⟨hc.1, hc.2⟩ next
theorem g_cVl {y : MethodName} {bytes : ByteArray} {mL nA D' idx : Nat} {fs : List (Option Nat)} {ci a : Nat} {ret : Option FieldType} {x : Int64} {rest : List Value} {h1 : Hp} (As : List Value) (C : Cx X own cc nL rt D mc ms) (hd : decode cc pc = .ok (.invokevirtual idx, 3)) (L : VLk own idx y bytes mL ret ci nA) (hm : MetA y bytes mL ret D' 0 0 (.ref a :: As) h (some (.long x)) h1) (hk : kd a = .inl (ci, fs)) (ha : a < 110 ∨ a < sz h) (hst : st = As.reverse ++ .ref a :: rest) (hn : As.length = nA) (hcat : (rest.map fun v => v.category).sum ≤ 8) (hD : D' + 1 ≤ D) (hc : k ≤ mc ∧ n ≤ ms) (next : G X h1 k n (pc + 3) lv (.long x :: rest)) : G X h k n pc lv st :=
  g_callV C hd L hm hk ha hst hn hcat hD ⟨hc.1, hc.2⟩ next
theorem g_cVv {y : MethodName} {bytes : ByteArray} {mL nA D' idx : Nat} {fs : List (Option Nat)} {ci a : Nat} {ret : Option FieldType} {rest : List Value} {h1 : Hp} (As : List Value) (C : Cx X own cc nL rt D mc ms) (hd : decode cc pc = .ok (.invokevirtual idx, 3)) (L : VLk own idx y bytes mL ret ci nA) (hm : MetA y bytes mL ret D' 0 0 (.ref a :: As) h none h1) (hk : kd a = .inl (ci, fs)) (ha : a < 110 ∨ a < sz h) (hst : st = As.reverse ++ .ref a :: rest) (hn : As.length = nA) (hcat : (rest.map fun v => v.category).sum ≤ 8) (hD : D' + 1 ≤ D) (hc : k ≤ mc ∧ n ≤ ms) (next : G X h1 k n (pc + 3) lv (rest)) : G X h k n pc lv st :=
  g_callV C hd L hm hk ha hst hn hcat hD ⟨hc.1, hc.2⟩ next
theorem g_cVr {y : MethodName} {bytes : ByteArray} {mL nA D' idx : Nat} {fs : List (Option Nat)} {ci a : Nat} {ret : Option FieldType} {x : Nat} {rest : List Value} {h1 : Hp} (As : List Value) (C : Cx X own cc nL rt D mc ms) (hd : decode cc pc = .ok (.invokevirtual idx, 3)) (L : VLk own idx y bytes mL ret ci nA) (hm : MetA y bytes mL ret D' 0 0 (.ref a :: As) h (some (.ref x)) h1) (hk : kd a = .inl (ci, fs)) (ha : a < 110 ∨ a < sz h) (hst : st = As.reverse ++ .ref a :: rest) (hn : As.length = nA) (hcat : (rest.map fun v => v.category).sum ≤ 8) (hD : D' + 1 ≤ D) (hc : k ≤ mc ∧ n ≤ ms) (next : G X h1 k n (pc + 3) lv (.ref x :: rest)) : G X h k n pc lv st :=
  g_callV C hd L hm hk ha hst hn hcat hD ⟨hc.1, hc.2⟩ next
theorem g_cSi {y : MethodName} {bytes : ByteArray} {mL nA D' idx : Nat} {ret : Option FieldType} {x : Int32} {rest : List Value} {h1 : Hp} (As : List Value) (C : Cx X own cc nL rt D mc ms) (hd : decode cc pc = .ok (.invokestatic idx, 3)) (L : SLk own idx y bytes mL ret nA) (hm : MetA y bytes mL ret D' 0 0 As h (some (.int x)) h1) (hst : st = As.reverse ++ rest) (hn : As.length = nA) (hcat : (rest.map fun v => v.category).sum ≤ 8) (hD : D' + 1 ≤ D) (hc : k ≤ mc ∧ n ≤ ms) (next : G X h1 k n (pc + 3) lv (.int x :: rest)) : G X h k n pc lv st :=
  g_callS C hd L hm hst hn hcat hD ⟨hc.1, hc.2⟩ next
theorem g_cSl {y : MethodName} {bytes : ByteArray} {mL nA D' idx : Nat} {ret : Option FieldType} {x : Int64} {rest : List Value} {h1 : Hp} (As : List Value) (C : Cx X own cc nL rt D mc ms) (hd : decode cc pc = .ok (.invokestatic idx, 3)) (L : SLk own idx y bytes mL ret nA) (hm : MetA y bytes mL ret D' 0 0 As h (some (.long x)) h1) (hst : st = As.reverse ++ rest) (hn : As.length = nA) (hcat : (rest.map fun v => v.category).sum ≤ 8) (hD : D' + 1 ≤ D) (hc : k ≤ mc ∧ n ≤ ms) (next : G X h1 k n (pc + 3) lv (.long x :: rest)) : G X h k n pc lv st :=
  g_callS C hd L hm hst hn hcat hD ⟨hc.1, hc.2⟩ next
theorem g_cSv {y : MethodName} {bytes : ByteArray} {mL nA D' idx : Nat} {ret : Option FieldType} {rest : List Value} {h1 : Hp} (As : List Value) (C : Cx X own cc nL rt D mc ms) (hd : decode cc pc = .ok (.invokestatic idx, 3)) (L : SLk own idx y bytes mL ret nA) (hm : MetA y bytes mL ret D' 0 0 As h none h1) (hst : st = As.reverse ++ rest) (hn : As.length = nA) (hcat : (rest.map fun v => v.category).sum ≤ 8) (hD : D' + 1 ≤ D) (hc : k ≤ mc ∧ n ≤ ms) (next : G X h1 k n (pc + 3) lv (rest)) : G X h k n pc lv st :=
  g_callS C hd L hm hst hn hcat hD ⟨hc.1, hc.2⟩ next
theorem g_cSr {y : MethodName} {bytes : ByteArray} {mL nA D' idx : Nat} {ret : Option FieldType} {x : Nat} {rest : List Value} {h1 : Hp} (As : List Value) (C : Cx X own cc nL rt D mc ms) (hd : decode cc pc = .ok (.invokestatic idx, 3)) (L : SLk own idx y bytes mL ret nA) (hm : MetA y bytes mL ret D' 0 0 As h (some (.ref x)) h1) (hst : st = As.reverse ++ rest) (hn : As.length = nA) (hcat : (rest.map fun v => v.category).sum ≤ 8) (hD : D' + 1 ≤ D) (hc : k ≤ mc ∧ n ≤ ms) (next : G X h1 k n (pc + 3) lv (.ref x :: rest)) : G X h k n pc lv st :=
  g_callS C hd L hm hst hn hcat hD ⟨hc.1, hc.2⟩ next
theorem g_cNi {y : MethodName} {bytes : ByteArray} {mL nA D' idx : Nat} {ret : Option FieldType} {x : Int32} {rest : List Value} {h1 : Hp} (As : List Value) (C : Cx X own cc nL rt D mc ms) (hd : decode cc pc = .ok (.invokestatic idx, 3)) (L : NLk own idx y bytes mL ret nA) (hm : MetA y bytes mL ret D' 0 0 As h (some (.int x)) h1) (hst : st = As.reverse ++ rest) (hn : As.length = nA) (hcat : (rest.map fun v => v.category).sum ≤ 8) (hD : D' + 1 ≤ D) (hc : k ≤ mc ∧ n ≤ ms) (next : G X h1 k n (pc + 3) lv (.int x :: rest)) : G X h k n pc lv st :=
  g_callN C hd L hm hst hn hcat hD ⟨hc.1, hc.2⟩ next
theorem g_cNl {y : MethodName} {bytes : ByteArray} {mL nA D' idx : Nat} {ret : Option FieldType} {x : Int64} {rest : List Value} {h1 : Hp} (As : List Value) (C : Cx X own cc nL rt D mc ms) (hd : decode cc pc = .ok (.invokestatic idx, 3)) (L : NLk own idx y bytes mL ret nA) (hm : MetA y bytes mL ret D' 0 0 As h (some (.long x)) h1) (hst : st = As.reverse ++ rest) (hn : As.length = nA) (hcat : (rest.map fun v => v.category).sum ≤ 8) (hD : D' + 1 ≤ D) (hc : k ≤ mc ∧ n ≤ ms) (next : G X h1 k n (pc + 3) lv (.long x :: rest)) : G X h k n pc lv st :=
  g_callN C hd L hm hst hn hcat hD ⟨hc.1, hc.2⟩ next
theorem g_cNv {y : MethodName} {bytes : ByteArray} {mL nA D' idx : Nat} {ret : Option FieldType} {rest : List Value} {h1 : Hp} (As : List Value) (C : Cx X own cc nL rt D mc ms) (hd : decode cc pc = .ok (.invokestatic idx, 3)) (L : NLk own idx y bytes mL ret nA) (hm : MetA y bytes mL ret D' 0 0 As h none h1) (hst : st = As.reverse ++ rest) (hn : As.length = nA) (hcat : (rest.map fun v => v.category).sum ≤ 8) (hD : D' + 1 ≤ D) (hc : k ≤ mc ∧ n ≤ ms) (next : G X h1 k n (pc + 3) lv (rest)) : G X h k n pc lv st :=
  g_callN C hd L hm hst hn hcat hD ⟨hc.1, hc.2⟩ next
theorem g_cNr {y : MethodName} {bytes : ByteArray} {mL nA D' idx : Nat} {ret : Option FieldType} {x : Nat} {rest : List Value} {h1 : Hp} (As : List Value) (C : Cx X own cc nL rt D mc ms) (hd : decode cc pc = .ok (.invokestatic idx, 3)) (L : NLk own idx y bytes mL ret nA) (hm : MetA y bytes mL ret D' 0 0 As h (some (.ref x)) h1) (hst : st = As.reverse ++ rest) (hn : As.length = nA) (hcat : (rest.map fun v => v.category).sum ≤ 8) (hD : D' + 1 ≤ D) (hc : k ≤ mc ∧ n ≤ ms) (next : G X h1 k n (pc + 3) lv (.ref x :: rest)) : G X h k n pc lv st :=
  g_callN C hd L hm hst hn hcat hD ⟨hc.1, hc.2⟩ next
end GX
theorem b2i_z {b : Bool} (h : b2i b = 0) : ¬ b = true := by cases b <;> simp_all [b2i]
theorem b2i_nz {b : Bool} (h : ¬ b2i b = 0) : b = true := by cases b <;> simp_all [b2i]
theorem cat0 : (([] : List Value).map fun v => v.category).sum ≤ 8 := by decide
theorem c00 {a b : Nat} : 0 ≤ a ∧ 0 ≤ b := ⟨Nat.zero_le _, Nat.zero_le _⟩
def icp (sp dp n : Int32) (n0 n1 : Nat) : Option (Nat × Nat × Nat) := if 0 ≤ sp ∧ 0 ≤ dp ∧ 0 ≤ n ∧ sp.toNatClampNeg + n.toNatClampNeg ≤ n0 ∧ dp.toNatClampNeg + n.toNatClampNeg ≤ n1 then some (sp.toNatClampNeg, dp.toNatClampNeg, n.toNatClampNeg) else none
theorem icp_eq {sp dp n : Int32} {n0 n1 : Nat} {q : Nat × Nat × Nat} (h : icp sp dp n n0 n1 = some q) : ¬ sp < 0 ∧ ¬ dp < 0 ∧ ¬ n < 0 ∧ sp.toNatClampNeg + n.toNatClampNeg ≤ n0 ∧ dp.toNatClampNeg + n.toNatClampNeg ≤ n1 ∧ q = (sp.toNatClampNeg, dp.toNatClampNeg, n.toNatClampNeg) := by
  unfold icp at h
  split at h
  · rename_i c
    obtain ⟨c1, c2, c3, c4, c5⟩ := c
    exact ⟨Int32.not_lt.mpr c1, Int32.not_lt.mpr c2, Int32.not_lt.mpr c3, c4, c5, (Option.some.inj h).symm⟩
  · cases h
theorem cE_cpA {h : Hp} {E : Ex} {sa sp da dp n : Nat} : ∀ b, b ≠ da → cE E (cpA h sa sp da dp n) b = cE E h b := by
  intro b hb
  have e2 : aI (cpA h sa sp da dp n) b = aI h b := by
    funext j
    show (if b = da then _ else h.2.1 b j) = h.2.1 b j
    rw [if_neg hb]
  unfold cE
  rw [e2]
  rfl
theorem aI_cpA {h : Hp} {sa sp da dp n : Nat} : aI (cpA h sa sp da dp n) da = va_cpy (aI h sa) (aI h da) sp dp n := by
  funext j
  show (if da = da then _ else h.2.1 da j) = _
  rw [if_pos rfl]
  rfl
section GY
variable {X : Xt} {own : String} {cc : ByteArray} {nL : Nat} {rt : Option FieldType} {D mc ms : Nat} {h : Hp} {k n pc : Nat} {lv : List (Nat × Value)} {st : List Value}
theorem g_acopy {idx sa da : Nat} {o0 o1 : Option Nat} {sp dp cn : Int32} {q : Nat × Nat × Nat} (C : Cx X own cc nL rt D mc ms) (hd : decode cc pc = .ok (.invokestatic idx, 3)) (L : Cond.methodLink own idx arraycopyName ∈ gw) (hk0 : kd sa = .inr (0, o0)) (hk1 : kd da = .inr (0, o1)) (h0 : sa < 110 ∨ sa < sz h) (h1 : da < 110 ∨ da < sz h) (hq : icp sp dp cn (alen h sa o0) (alen h da o1) = some q) (hst : st = []) (hD : 1 ≤ D) (next : G X (cpA h sa q.1 da q.2.1 q.2.2) k n (pc + 3) lv st) : G X h k n pc lv (.int cn :: .int dp :: .ref da :: .int sp :: .ref sa :: st) := by
  subst hst
  obtain ⟨p, l, e, R, s, m, args, below, meth, c, Q, E⟩ := X
  obtain ⟨hx, hb, hml, hown, hts, hO, hlk, hrt, hfr, hlo, hce, hsl, hbs, -⟩ := C
  intro H locs ls hR hS hl
  have h0 := sz_of hR h0
  have h1 := sz_of hR h1
  have hq0 := ws_at (E := E) h0
  have hq1 := ws_at (E := E) h1
  rw [cE_i hk0 (by omega)] at hq0
  rw [cE_i hk1 (by omega)] at hq1
  obtain ⟨c1, c2, c3, c4, c5, rfl⟩ := icp_eq hq
  simp only [List.map_cons, List.map_nil, cv_ref hR h0, cv_ref hR h1]
  intro T hT X0
  have nn : ∀ z : Int32, ¬ z < 0 → z.toInt = (z.toNatClampNeg : Int) := by
    intro z hz
    have h3 : 0 ≤ z.toInt := by
      have := Int32.not_lt.mp hz
      simpa using Int32.le_iff_toInt_le.mp this
    show z.toInt = ((z.toInt.toNat : Nat) : Int)
    omega
  have hc0 : H[E.2.2.1 + sa]? = some (vp_cell (E.2.1 0) (alen h sa o0, .inl (aI h sa))) := hR.2.2.2 sa _ hq0
  have hc1 : H[E.2.2.1 + da]? = some (vp_cell (E.2.1 0) (alen h da o1, .inl (aI h da))) := hR.2.2.2 da _ hq1
  obtain ⟨-, k0, hk0', cm0, hkk0⟩ := (hO.1.2 0 _ rfl).1 (alen h sa o0) (fun j => .int (aI h sa j))
  obtain ⟨-, k1, hk1', cm1, hkk1⟩ := (hO.1.2 0 _ rfl).1 (alen h da o1) (fun j => .int (aI h da j))
  have hnw : nativeFrameWords "java/lang/System" "arraycopy" 5 + 11 ≤ 60 := by decide +kernel
  obtain ⟨vm', X', step⟩ := X0.arraycopy hx hown (hts _ L) (hts _ ac_nat) (hts _ ac_st) (hts _ ac_in) (src := E.2.2.1 + sa) (dst := E.2.2.1 + da) (cs := vp_cell (E.2.1 0) (alen h sa o0, .inl (aI h sa))) (cd := vp_cell (E.2.1 0) (alen h da o1, .inl (aI h da))) (srcPos := sp) (destPos := dp) (n := cn) (by rw [hT]; exact hc0) (by rw [hT]; exact hc1)
    (fun _ h => by cases h) (fun _ h => by cases h) (fun h => by cases h) (fun h => by cases h) hk0' hk1' hkk0 hkk1 (by rfl) c1 c2 c3
    (by rw [nn sp c1, nn cn c3]; show ¬ _ > ((arrV _ (alen h sa o0) (fun j => .int (aI h sa j))).slots.size : Int); rw [arrV_size]; omega)
    (by rw [nn dp c2, nn cn c3]; show ¬ _ > ((arrV _ (alen h da o1) (fun j => .int (aI h da j))).slots.size : Int); rw [arrV_size]; omega)
    (fun vm₁ _ i hi => by
      have e9 : (vp_cell (E.2.1 0) (alen h sa o0, .inl (aI h sa))).slots.getD (sp.toNatClampNeg + i) .null = .int (aI h sa (sp.toNatClampNeg + i)) := by
        show (arrV _ _ (fun j => .int (aI h sa j))).slots.getD _ _ = _
        rw [Array.getD_eq_getD_getElem?, arrV_read _ _ (by omega)]
        rfl
      refine ⟨?_, ?_⟩
      · rw [e9]; rfl
      · rw [e9]; exact trivial)
    (g := F0 m pc ls (.int cn :: .int dp :: .ref (E.2.2.1 + da) :: .int sp :: .ref (E.2.2.1 + sa) :: [])) rfl hl.1 (rest := []) rfl (by rw [hb]; exact hd) (by omega) (by show 2 * 0 + 0 + _ ≤ _; omega)
  have e1 : copied (vp_cell (E.2.1 0) (alen h sa o0, .inl (aI h sa))) (vp_cell (E.2.1 0) (alen h da o1, .inl (aI h da))) sp dp cn = vp_cell (E.2.1 0) (alen h da o1, .inl (va_cpy (aI h sa) (aI h da) sp.toNatClampNeg dp.toNatClampNeg cn.toNatClampNeg)) := va_copied (fun z => .int z) _ _ (aI h sa) (aI h da) c4
  rw [e1] at X' step
  have hlt : E.2.2.1 + da < H.size := (Array.getElem?_eq_some_iff.mp hc1).1
  have oq : ∀ q : Nat, q ≠ E.2.2.1 + da → (H.setIfInBounds (E.2.2.1 + da) (vp_cell (E.2.1 0) (alen h da o1, .inl (va_cpy (aI h sa) (aI h da) sp.toNatClampNeg dp.toNatClampNeg cn.toNatClampNeg))))[q]? = H[q]? := fun q hq => by simp [Array.getElem?_setIfInBounds, Ne.symm hq]
  obtain ⟨t, a1, b1⟩ := next (H.setIfInBounds (E.2.2.1 + da) _) _ ls (Rl_put hR h1 rfl (by simp) cE_cpA oq (by
      rw [cE_i hk1 (by omega), aI_cpA]
      show (H.setIfInBounds (E.2.2.1 + da) _)[E.2.2.1 + da]? = some _
      simp [Array.getElem?_setIfInBounds, hlt]
      rfl)) ⟨by simp; exact hS.1, fun q g1 g2 => by
      rw [oq q (fun e => g2 (by rw [e]; exact Nat.le_add_right _ _))]
      exact hS.2.1 q g1 g2, fun q hq => by
      rcases List.mem_append.mp hq with h | h
      · exact hS.2.2 q h
      · obtain ⟨z, -, hz⟩ := List.mem_map.mp h
        rw [← hz]
        exact Nat.le_add_right _ _⟩ hl _ (by rw [← hT]; rfl) X'
  exact ⟨t, step t a1, b1⟩
end GY
end
section
def oc {α β : Type} (o : Option α) (n : β) (s : α → β) : β := match o with
  | none => n
  | some a => s a
theorem oc_n {α β : Type} {n : β} {s : α → β} : oc (none : Option α) n s = n := rfl
theorem oc_s {α β : Type} {a : α} {n : β} {s : α → β} : oc (some a) n s = s a := rfl
def sc {α β γ : Type} (e : α ⊕ β) (f : α → γ) (g : β → γ) : γ := match e with
  | .inl a => f a
  | .inr b => g b
theorem sc_l {α β γ : Type} {a : α} {f : α → γ} {g : β → γ} : sc (.inl a) f g = f a := rfl
theorem sc_r {α β γ : Type} {b : β} {f : α → γ} {g : β → γ} : sc (.inr b) f g = g b := rfl
theorem ltk_0 {Z : Prop} : 0 < 110 ∨ Z := Or.inl (by decide)
theorem ltk_1 {Z : Prop} : 1 < 110 ∨ Z := Or.inl (by decide)
theorem ltk_2 {Z : Prop} : 2 < 110 ∨ Z := Or.inl (by decide)
theorem ltk_3 {Z : Prop} : 3 < 110 ∨ Z := Or.inl (by decide)
theorem ltk_4 {Z : Prop} : 4 < 110 ∨ Z := Or.inl (by decide)
theorem ltk_5 {Z : Prop} : 5 < 110 ∨ Z := Or.inl (by decide)
theorem ltk_6 {Z : Prop} : 6 < 110 ∨ Z := Or.inl (by decide)
theorem ltk_7 {Z : Prop} : 7 < 110 ∨ Z := Or.inl (by decide)
theorem ltk_8 {Z : Prop} : 8 < 110 ∨ Z := Or.inl (by decide)
theorem ltk_9 {Z : Prop} : 9 < 110 ∨ Z := Or.inl (by decide)
theorem ltk_10 {Z : Prop} : 10 < 110 ∨ Z := Or.inl (by decide)
theorem ltk_11 {Z : Prop} : 11 < 110 ∨ Z := Or.inl (by decide)
theorem ltk_12 {Z : Prop} : 12 < 110 ∨ Z := Or.inl (by decide)
theorem ltk_13 {Z : Prop} : 13 < 110 ∨ Z := Or.inl (by decide)
theorem ltk_14 {Z : Prop} : 14 < 110 ∨ Z := Or.inl (by decide)
theorem ltk_15 {Z : Prop} : 15 < 110 ∨ Z := Or.inl (by decide)
theorem ltk_16 {Z : Prop} : 16 < 110 ∨ Z := Or.inl (by decide)
theorem ltk_17 {Z : Prop} : 17 < 110 ∨ Z := Or.inl (by decide)
theorem ltk_18 {Z : Prop} : 18 < 110 ∨ Z := Or.inl (by decide)
theorem ltk_19 {Z : Prop} : 19 < 110 ∨ Z := Or.inl (by decide)
theorem ltk_20 {Z : Prop} : 20 < 110 ∨ Z := Or.inl (by decide)
theorem ltk_21 {Z : Prop} : 21 < 110 ∨ Z := Or.inl (by decide)
theorem ltk_22 {Z : Prop} : 22 < 110 ∨ Z := Or.inl (by decide)
theorem ltk_23 {Z : Prop} : 23 < 110 ∨ Z := Or.inl (by decide)
theorem ltk_24 {Z : Prop} : 24 < 110 ∨ Z := Or.inl (by decide)
theorem ltk_25 {Z : Prop} : 25 < 110 ∨ Z := Or.inl (by decide)
theorem ltk_26 {Z : Prop} : 26 < 110 ∨ Z := Or.inl (by decide)
theorem ltk_27 {Z : Prop} : 27 < 110 ∨ Z := Or.inl (by decide)
theorem ltk_28 {Z : Prop} : 28 < 110 ∨ Z := Or.inl (by decide)
theorem ltk_29 {Z : Prop} : 29 < 110 ∨ Z := Or.inl (by decide)
theorem ltk_30 {Z : Prop} : 30 < 110 ∨ Z := Or.inl (by decide)
theorem ltk_31 {Z : Prop} : 31 < 110 ∨ Z := Or.inl (by decide)
theorem ltk_32 {Z : Prop} : 32 < 110 ∨ Z := Or.inl (by decide)
theorem ltk_33 {Z : Prop} : 33 < 110 ∨ Z := Or.inl (by decide)
theorem ltk_34 {Z : Prop} : 34 < 110 ∨ Z := Or.inl (by decide)
theorem ltk_35 {Z : Prop} : 35 < 110 ∨ Z := Or.inl (by decide)
theorem ltk_36 {Z : Prop} : 36 < 110 ∨ Z := Or.inl (by decide)
theorem ltk_37 {Z : Prop} : 37 < 110 ∨ Z := Or.inl (by decide)
theorem ltk_38 {Z : Prop} : 38 < 110 ∨ Z := Or.inl (by decide)
theorem ltk_39 {Z : Prop} : 39 < 110 ∨ Z := Or.inl (by decide)
theorem ltk_40 {Z : Prop} : 40 < 110 ∨ Z := Or.inl (by decide)
theorem ltk_41 {Z : Prop} : 41 < 110 ∨ Z := Or.inl (by decide)
theorem ltk_42 {Z : Prop} : 42 < 110 ∨ Z := Or.inl (by decide)
theorem ltk_43 {Z : Prop} : 43 < 110 ∨ Z := Or.inl (by decide)
theorem ltk_44 {Z : Prop} : 44 < 110 ∨ Z := Or.inl (by decide)
theorem ltk_45 {Z : Prop} : 45 < 110 ∨ Z := Or.inl (by decide)
theorem ltk_46 {Z : Prop} : 46 < 110 ∨ Z := Or.inl (by decide)
theorem ltk_47 {Z : Prop} : 47 < 110 ∨ Z := Or.inl (by decide)
theorem ltk_48 {Z : Prop} : 48 < 110 ∨ Z := Or.inl (by decide)
theorem ltk_49 {Z : Prop} : 49 < 110 ∨ Z := Or.inl (by decide)
theorem ltk_50 {Z : Prop} : 50 < 110 ∨ Z := Or.inl (by decide)
theorem ltk_51 {Z : Prop} : 51 < 110 ∨ Z := Or.inl (by decide)
theorem ltk_52 {Z : Prop} : 52 < 110 ∨ Z := Or.inl (by decide)
theorem ltk_53 {Z : Prop} : 53 < 110 ∨ Z := Or.inl (by decide)
theorem ltk_54 {Z : Prop} : 54 < 110 ∨ Z := Or.inl (by decide)
theorem ltk_55 {Z : Prop} : 55 < 110 ∨ Z := Or.inl (by decide)
theorem ltk_56 {Z : Prop} : 56 < 110 ∨ Z := Or.inl (by decide)
theorem ltk_57 {Z : Prop} : 57 < 110 ∨ Z := Or.inl (by decide)
theorem ltk_58 {Z : Prop} : 58 < 110 ∨ Z := Or.inl (by decide)
theorem ltk_59 {Z : Prop} : 59 < 110 ∨ Z := Or.inl (by decide)
theorem ltk_60 {Z : Prop} : 60 < 110 ∨ Z := Or.inl (by decide)
theorem ltk_61 {Z : Prop} : 61 < 110 ∨ Z := Or.inl (by decide)
theorem ltk_62 {Z : Prop} : 62 < 110 ∨ Z := Or.inl (by decide)
theorem ltk_63 {Z : Prop} : 63 < 110 ∨ Z := Or.inl (by decide)
theorem ltk_64 {Z : Prop} : 64 < 110 ∨ Z := Or.inl (by decide)
theorem ltk_65 {Z : Prop} : 65 < 110 ∨ Z := Or.inl (by decide)
theorem ltk_66 {Z : Prop} : 66 < 110 ∨ Z := Or.inl (by decide)
theorem ltk_67 {Z : Prop} : 67 < 110 ∨ Z := Or.inl (by decide)
theorem ltk_68 {Z : Prop} : 68 < 110 ∨ Z := Or.inl (by decide)
theorem ltk_69 {Z : Prop} : 69 < 110 ∨ Z := Or.inl (by decide)
theorem ltk_70 {Z : Prop} : 70 < 110 ∨ Z := Or.inl (by decide)
theorem ltk_71 {Z : Prop} : 71 < 110 ∨ Z := Or.inl (by decide)
theorem ltk_72 {Z : Prop} : 72 < 110 ∨ Z := Or.inl (by decide)
theorem ltk_73 {Z : Prop} : 73 < 110 ∨ Z := Or.inl (by decide)
theorem ltk_74 {Z : Prop} : 74 < 110 ∨ Z := Or.inl (by decide)
theorem ltk_75 {Z : Prop} : 75 < 110 ∨ Z := Or.inl (by decide)
theorem ltk_76 {Z : Prop} : 76 < 110 ∨ Z := Or.inl (by decide)
theorem ltk_77 {Z : Prop} : 77 < 110 ∨ Z := Or.inl (by decide)
theorem ltk_78 {Z : Prop} : 78 < 110 ∨ Z := Or.inl (by decide)
theorem ltk_79 {Z : Prop} : 79 < 110 ∨ Z := Or.inl (by decide)
theorem ltk_80 {Z : Prop} : 80 < 110 ∨ Z := Or.inl (by decide)
theorem ltk_81 {Z : Prop} : 81 < 110 ∨ Z := Or.inl (by decide)
theorem ltk_82 {Z : Prop} : 82 < 110 ∨ Z := Or.inl (by decide)
theorem ltk_83 {Z : Prop} : 83 < 110 ∨ Z := Or.inl (by decide)
theorem ltk_84 {Z : Prop} : 84 < 110 ∨ Z := Or.inl (by decide)
theorem ltk_85 {Z : Prop} : 85 < 110 ∨ Z := Or.inl (by decide)
theorem ltk_86 {Z : Prop} : 86 < 110 ∨ Z := Or.inl (by decide)
theorem ltk_87 {Z : Prop} : 87 < 110 ∨ Z := Or.inl (by decide)
theorem ltk_88 {Z : Prop} : 88 < 110 ∨ Z := Or.inl (by decide)
theorem ltk_89 {Z : Prop} : 89 < 110 ∨ Z := Or.inl (by decide)
theorem ltk_90 {Z : Prop} : 90 < 110 ∨ Z := Or.inl (by decide)
theorem ltk_91 {Z : Prop} : 91 < 110 ∨ Z := Or.inl (by decide)
theorem ltk_92 {Z : Prop} : 92 < 110 ∨ Z := Or.inl (by decide)
theorem ltk_93 {Z : Prop} : 93 < 110 ∨ Z := Or.inl (by decide)
theorem ltk_94 {Z : Prop} : 94 < 110 ∨ Z := Or.inl (by decide)
theorem ltk_95 {Z : Prop} : 95 < 110 ∨ Z := Or.inl (by decide)
theorem ltk_96 {Z : Prop} : 96 < 110 ∨ Z := Or.inl (by decide)
theorem ltk_97 {Z : Prop} : 97 < 110 ∨ Z := Or.inl (by decide)
theorem ltk_98 {Z : Prop} : 98 < 110 ∨ Z := Or.inl (by decide)
theorem ltk_99 {Z : Prop} : 99 < 110 ∨ Z := Or.inl (by decide)
theorem ltk_100 {Z : Prop} : 100 < 110 ∨ Z := Or.inl (by decide)
theorem ltk_101 {Z : Prop} : 101 < 110 ∨ Z := Or.inl (by decide)
theorem ltk_102 {Z : Prop} : 102 < 110 ∨ Z := Or.inl (by decide)
theorem ltk_103 {Z : Prop} : 103 < 110 ∨ Z := Or.inl (by decide)
theorem ltk_104 {Z : Prop} : 104 < 110 ∨ Z := Or.inl (by decide)
theorem ltk_105 {Z : Prop} : 105 < 110 ∨ Z := Or.inl (by decide)
theorem ltk_106 {Z : Prop} : 106 < 110 ∨ Z := Or.inl (by decide)
theorem ltk_107 {Z : Prop} : 107 < 110 ∨ Z := Or.inl (by decide)
theorem ltk_108 {Z : Prop} : 108 < 110 ∨ Z := Or.inl (by decide)
theorem ltk_109 {Z : Prop} : 109 < 110 ∨ Z := Or.inl (by decide)
section GZ
variable {X : Xt} {own : String} {cc : ByteArray} {nL : Nat} {rt : Option FieldType} {D mc ms : Nat} {h : Hp} {k n pc : Nat} {lv : List (Nat × Value)} {st : List Value}
theorem g_putZ {idx ci f a : Nat} {fs : List (Option Nat)} {x : Int32} {b : Bool} (C : Cx X own cc nL rt D mc ms) (hd : decode cc pc = .ok (.putfield idx, 3)) (hF : FLk own idx ci f .boolean false) (hb : x = b2i b) (hk : kd a = .inl (ci, fs)) (hf : fs[f]? = some none) (ha : a < 110 ∨ a < sz h) (next : G X (sF h a f (b2i b)) k n (pc + 3) lv st) : G X h k n pc lv (.int x :: .ref a :: st) := by
  subst hb
  exact g_putI C hd hF (b2i_narrow b).1 (b2i_narrow b).2 hk hf ha next
end GZ
theorem ic_6 : Int32.ofInt (6) = (6 : Int32) := by decide
theorem ic_m8 : Int32.ofInt (-8) = (-8 : Int32) := by decide
theorem al_6_27 : Cond.methodLink cn_6 27 arraycopyName ∈ gw := gm_1 99 rfl rfl
theorem gs_M : Cond.fieldLink "SteamNations" 181 "SteamNations" "MOST_OF_TERM" "[I" ∈ gw := gm_3 35 rfl rfl
theorem al_4_19 : Cond.methodLink cn_4 19 arraycopyName ∈ gw := gm_4 26 rfl rfl
theorem al_10_380 : Cond.methodLink cn_10 380 arraycopyName ∈ gw := gm_5 107 rfl rfl
theorem al_1_43 : Cond.methodLink cn_1 43 arraycopyName ∈ gw := gm_5 149 rfl rfl
end
section
/-! SteamNations$Room.copyFrom(LSteamNations$Room;)V -/
def dl_X6_copyFrom : List (Nat × Instr × Nat) := [(0, .aload_n 0, 1), (1, .aload_n 1, 1), (2, .getfield 33, 3), (5, .putfield 33, 3), (8, .aload_n 1, 1), (9, .getfield 9, 3), (12, .iconst 0, 1), (13, .aload_n 0, 1), (14, .getfield 9, 3), (17, .iconst 0, 1), (18, .aload_n 0, 1), (19, .getfield 9, 3), (22, .arraylength, 1), (23, .invokestatic 27, 3), (26, .aload_n 1, 1), (27, .getfield 15, 3), (30, .iconst 0, 1), (31, .aload_n 0, 1), (32, .getfield 15, 3), (35, .iconst 0, 1), (36, .aload_n 0, 1), (37, .getfield 15, 3), (40, .arraylength, 1), (41, .invokestatic 27, 3), (44, .aload_n 1, 1), (45, .getfield 18, 3), (48, .iconst 0, 1), (49, .aload_n 0, 1), (50, .getfield 18, 3), (53, .iconst 0, 1), (54, .aload_n 0, 1), (55, .getfield 18, 3), (58, .arraylength, 1), (59, .invokestatic 27, 3), (62, .aload_n 1, 1), (63, .getfield 24, 3), (66, .iconst 0, 1), (67, .aload_n 0, 1), (68, .getfield 24, 3), (71, .iconst 0, 1), (72, .aload_n 0, 1), (73, .getfield 24, 3), (76, .arraylength, 1), (77, .invokestatic 27, 3), (80, .return_, 1)]
set_option maxRecDepth 20000 in
theorem dt_X6_copyFrom : ∀ q ∈ dl_X6_copyFrom, decode prog_8_method_2_code q.1 = .ok q.2 := by decide +kernel
def f_X6_copyFrom (a0 : Nat) (a1 : Nat) (h : Hp) : Option (Unit × Hp) :=
  (icp (0 : Int32) (0 : Int32) (18 : Int32) 18 18).bind fun q1 =>
  (icp (0 : Int32) (0 : Int32) (6 : Int32) 6 6).bind fun q3 =>
  (icp (0 : Int32) (0 : Int32) (6 : Int32) 6 6).bind fun q5 =>
  (icp (0 : Int32) (0 : Int32) (3 : Int32) 3 3).bind fun q7 =>
  some ((), (cpA (cpA (cpA (cpA (sF h a0 0 (fI h a1 0)) (a1 + 1) q1.1 (a0 + 1) q1.2.1 q1.2.2) (a1 + 2) q3.1 (a0 + 2) q3.2.1 q3.2.2) (a1 + 3) q5.1 (a0 + 3) q5.2.1 q5.2.2) (a1 + 4) q7.1 (a0 + 4) q7.2.1 q7.2.2))
set_option maxRecDepth 20000 in
theorem w_X6_copyFrom (a0 : Nat) (a1 : Nat) (h : Hp) (q : (Unit × Hp)) (Ha0 : IsRoom a0) (Ha1 : IsRoom a1) (hrun : f_X6_copyFrom a0 a1 h = some q) : MetA ⟨"SteamNations$Room", "copyFrom", "(LSteamNations$Room;)V"⟩ prog_8_method_2_code 2 none 1 0 0 [.ref a0, .ref a1] h none q.2 := by
  refine metA_of rfl (Nat.le_of_ble_eq_true rfl) (fun X C K => ?_)
  have C : Cx X cn_6 prog_8_method_2_code 2 none 1 0 0 := C
  show G X h 0 0 0 [(0, .ref a0), (1, .ref a1)] []
  unfold f_X6_copyFrom at hrun
  refine g_aload_n C (dat dt_X6_copyFrom 0 rfl) 0 rfl ?_
  refine g_aload_n C (dat dt_X6_copyFrom 1 rfl) 1 rfl ?_
  refine g_getI C (dat dt_X6_copyFrom 2 rfl) fl_6_33 Ha1.1 rfl (rb0 Ha1) ?_
  refine g_putI C (dat dt_X6_copyFrom 3 rfl) fl_6_33 rfl rfl Ha0.1 rfl (rb0 Ha0) ?_
  refine g_aload_n C (dat dt_X6_copyFrom 4 rfl) 1 rfl ?_
  refine g_getR C (dat dt_X6_copyFrom 5 rfl) fl_6_9 Ha1.1 rfl (rb0 Ha1) ?_
  refine g_iconst C (dat dt_X6_copyFrom 6 rfl) ic_0 ?_
  refine g_aload_n C (dat dt_X6_copyFrom 7 rfl) 0 rfl ?_
  refine g_getR C (dat dt_X6_copyFrom 8 rfl) fl_6_9 Ha0.1 rfl (rb0 Ha0) ?_
  refine g_iconst C (dat dt_X6_copyFrom 9 rfl) ic_0 ?_
  refine g_aload_n C (dat dt_X6_copyFrom 10 rfl) 0 rfl ?_
  refine g_getR C (dat dt_X6_copyFrom 11 rfl) fl_6_9 Ha0.1 rfl (rb0 Ha0) ?_
  refine g_alen (v := (18 : Int32)) C (dat dt_X6_copyFrom 12 rfl) Ha0.2.1 (by decide) (rb1 Ha0) rfl ?_
  obtain ⟨q1, q2, hrun⟩ := bd hrun
  refine g_acopy C (dat dt_X6_copyFrom 13 rfl) al_6_27 Ha1.2.1 Ha0.2.1 (rb1 Ha1) (rb1 Ha0) q2 rfl (by decide) ?_
  refine g_aload_n C (dat dt_X6_copyFrom 14 rfl) 1 rfl ?_
  refine g_getR C (dat dt_X6_copyFrom 15 rfl) fl_6_15 Ha1.1 rfl (rb0 Ha1) ?_
  refine g_iconst C (dat dt_X6_copyFrom 16 rfl) ic_0 ?_
  refine g_aload_n C (dat dt_X6_copyFrom 17 rfl) 0 rfl ?_
  refine g_getR C (dat dt_X6_copyFrom 18 rfl) fl_6_15 Ha0.1 rfl (rb0 Ha0) ?_
  refine g_iconst C (dat dt_X6_copyFrom 19 rfl) ic_0 ?_
  refine g_aload_n C (dat dt_X6_copyFrom 20 rfl) 0 rfl ?_
  refine g_getR C (dat dt_X6_copyFrom 21 rfl) fl_6_15 Ha0.1 rfl (rb0 Ha0) ?_
  refine g_alen (v := (6 : Int32)) C (dat dt_X6_copyFrom 22 rfl) Ha0.2.2.1 (by decide) (rb2 Ha0) rfl ?_
  obtain ⟨q3, q4, hrun⟩ := bd hrun
  refine g_acopy C (dat dt_X6_copyFrom 23 rfl) al_6_27 Ha1.2.2.1 Ha0.2.2.1 (rb2 Ha1) (rb2 Ha0) q4 rfl (by decide) ?_
  refine g_aload_n C (dat dt_X6_copyFrom 24 rfl) 1 rfl ?_
  refine g_getR C (dat dt_X6_copyFrom 25 rfl) fl_6_18 Ha1.1 rfl (rb0 Ha1) ?_
  refine g_iconst C (dat dt_X6_copyFrom 26 rfl) ic_0 ?_
  refine g_aload_n C (dat dt_X6_copyFrom 27 rfl) 0 rfl ?_
  refine g_getR C (dat dt_X6_copyFrom 28 rfl) fl_6_18 Ha0.1 rfl (rb0 Ha0) ?_
  refine g_iconst C (dat dt_X6_copyFrom 29 rfl) ic_0 ?_
  refine g_aload_n C (dat dt_X6_copyFrom 30 rfl) 0 rfl ?_
  refine g_getR C (dat dt_X6_copyFrom 31 rfl) fl_6_18 Ha0.1 rfl (rb0 Ha0) ?_
  refine g_alen (v := (6 : Int32)) C (dat dt_X6_copyFrom 32 rfl) Ha0.2.2.2.1 (by decide) (rb3 Ha0) rfl ?_
  obtain ⟨q5, q6, hrun⟩ := bd hrun
  refine g_acopy C (dat dt_X6_copyFrom 33 rfl) al_6_27 Ha1.2.2.2.1 Ha0.2.2.2.1 (rb3 Ha1) (rb3 Ha0) q6 rfl (by decide) ?_
  refine g_aload_n C (dat dt_X6_copyFrom 34 rfl) 1 rfl ?_
  refine g_getR C (dat dt_X6_copyFrom 35 rfl) fl_6_24 Ha1.1 rfl (rb0 Ha1) ?_
  refine g_iconst C (dat dt_X6_copyFrom 36 rfl) ic_0 ?_
  refine g_aload_n C (dat dt_X6_copyFrom 37 rfl) 0 rfl ?_
  refine g_getR C (dat dt_X6_copyFrom 38 rfl) fl_6_24 Ha0.1 rfl (rb0 Ha0) ?_
  refine g_iconst C (dat dt_X6_copyFrom 39 rfl) ic_0 ?_
  refine g_aload_n C (dat dt_X6_copyFrom 40 rfl) 0 rfl ?_
  refine g_getR C (dat dt_X6_copyFrom 41 rfl) fl_6_24 Ha0.1 rfl (rb0 Ha0) ?_
  refine g_alen (v := (3 : Int32)) C (dat dt_X6_copyFrom 42 rfl) Ha0.2.2.2.2.1 (by decide) (rb4 Ha0) rfl ?_
  obtain ⟨q7, q8, hrun⟩ := bd hrun
  refine g_acopy C (dat dt_X6_copyFrom 43 rfl) al_6_27 Ha1.2.2.2.2.1 Ha0.2.2.2.2.1 (rb4 Ha1) (rb4 Ha0) q8 rfl (by decide) ?_
  cases hrun
  exact g_vret C K (dat dt_X6_copyFrom 44 rfl)
/-! SteamNations$Room.add(IIII)I -/
def dl_X6_add : List (Nat × Instr × Nat) := [(0, .aload_n 0, 1), (1, .getfield 33, 3), (4, .bipush 6, 2), (6, .if_icmp .lt 5, 3), (9, .iconst (-1), 1), (10, .ireturn, 1), (11, .aload_n 0, 1), (12, .getfield 33, 3), (15, .istore 5, 2), (17, .aload_n 0, 1), (18, .getfield 9, 3), (21, .iload 5, 2), (23, .iconst 3, 1), (24, .imul, 1), (25, .iload_n 1, 1), (26, .iastore, 1), (27, .aload_n 0, 1), (28, .getfield 9, 3), (31, .iload 5, 2), (33, .iconst 3, 1), (34, .imul, 1), (35, .iconst 1, 1), (36, .iadd, 1), (37, .iload_n 2, 1), (38, .iastore, 1), (39, .aload_n 0, 1), (40, .getfield 9, 3), (43, .iload 5, 2), (45, .iconst 3, 1), (46, .imul, 1), (47, .iconst 2, 1), (48, .iadd, 1), (49, .iload_n 3, 1), (50, .iastore, 1), (51, .aload_n 0, 1), (52, .getfield 15, 3), (55, .iload 5, 2), (57, .iload 4, 2), (59, .iastore, 1), (60, .aload_n 0, 1), (61, .getfield 18, 3), (64, .iload 5, 2), (66, .iconst (-1), 1), (67, .iastore, 1), (68, .aload_n 0, 1), (69, .dup, 1), (70, .getfield 33, 3), (73, .iconst 1, 1), (74, .iadd, 1), (75, .putfield 33, 3), (78, .iload 5, 2), (80, .ireturn, 1)]
set_option maxRecDepth 20000 in
theorem dt_X6_add : ∀ q ∈ dl_X6_add, decode prog_8_method_3_code q.1 = .ok q.2 := by decide +kernel
def f_X6_add (a0 : Nat) (x1 : Int32) (x2 : Int32) (x3 : Int32) (x4 : Int32) (h : Hp) : Option (Int32 × Hp) :=
  if (fI h a0 0) < (6 : Int32) then
  (inb ((fI h a0 0) * (3 : Int32)) 18).bind fun j2 =>
  (inb (((fI h a0 0) * (3 : Int32)) + (1 : Int32)) 18).bind fun j4 =>
  (inb (((fI h a0 0) * (3 : Int32)) + (2 : Int32)) 18).bind fun j6 =>
  (inb (fI h a0 0) 6).bind fun j8 =>
  (inb (fI h a0 0) 6).bind fun j10 =>
  some ((fI h a0 0), (sF (sA (sA (sA (sA (sA h (a0 + 1) j2 x1) (a0 + 1) j4 x2) (a0 + 1) j6 x3) (a0 + 2) j8 x4) (a0 + 3) j10 (-1 : Int32)) a0 0 ((fI (sA (sA (sA (sA (sA h (a0 + 1) j2 x1) (a0 + 1) j4 x2) (a0 + 1) j6 x3) (a0 + 2) j8 x4) (a0 + 3) j10 (-1 : Int32)) a0 0) + (1 : Int32))))
  else
  some ((-1 : Int32), h)
set_option maxRecDepth 20000 in
theorem w_X6_add (a0 : Nat) (x1 : Int32) (x2 : Int32) (x3 : Int32) (x4 : Int32) (h : Hp) (q : (Int32 × Hp)) (Ha0 : IsRoom a0) (hrun : f_X6_add a0 x1 x2 x3 x4 h = some q) : MetA ⟨"SteamNations$Room", "add", "(IIII)I"⟩ prog_8_method_3_code 6 (some .int) 1 0 0 [.ref a0, .int x1, .int x2, .int x3, .int x4] h (some (.int q.1)) q.2 := by
  refine metA_of rfl (Nat.le_of_ble_eq_true rfl) (fun X C K => ?_)
  have C : Cx X cn_6 prog_8_method_3_code 6 (some .int) 1 0 0 := C
  show G X h 0 0 0 [(0, .ref a0), (1, .int x1), (2, .int x2), (3, .int x3), (4, .int x4)] []
  unfold f_X6_add at hrun
  refine g_aload_n C (dat dt_X6_add 0 rfl) 0 rfl ?_
  refine g_getI C (dat dt_X6_add 1 rfl) fl_6_33 Ha0.1 rfl (rb0 Ha0) ?_
  refine g_bipush C (dat dt_X6_add 2 rfl) bp_6 ?_
  refine g_ic_lt 11 C (dat dt_X6_add 3 rfl) (by decide) (fun c1 => ?_) (fun c1 => ?_)
  · rw [if_pos c1] at hrun
    refine g_aload_n C (dat dt_X6_add 6 rfl) 0 rfl ?_
    refine g_getI C (dat dt_X6_add 7 rfl) fl_6_33 Ha0.1 rfl (rb0 Ha0) ?_
    refine g_istore (lv' := [(0, .ref a0), (1, .int x1), (2, .int x2), (3, .int x3), (4, .int x4), (5, .int (fI h a0 0))]) C (dat dt_X6_add 8 rfl) (by decide) rfl ?_
    refine g_aload_n C (dat dt_X6_add 9 rfl) 0 rfl ?_
    refine g_getR C (dat dt_X6_add 10 rfl) fl_6_9 Ha0.1 rfl (rb0 Ha0) ?_
    refine g_iload C (dat dt_X6_add 11 rfl) 5 rfl ?_
    refine g_iconst C (dat dt_X6_add 12 rfl) ic_3 ?_
    refine g_imul C (dat dt_X6_add 13 rfl) ?_
    refine g_iload_n C (dat dt_X6_add 14 rfl) 1 rfl ?_
    obtain ⟨j2, q3, hrun⟩ := bd hrun
    refine g_iast (j := j2) C (dat dt_X6_add 15 rfl) Ha0.2.1 (rb1 Ha0) q3  ?_
    refine g_aload_n C (dat dt_X6_add 16 rfl) 0 rfl ?_
    refine g_getR C (dat dt_X6_add 17 rfl) fl_6_9 Ha0.1 rfl (rb0 Ha0) ?_
    refine g_iload C (dat dt_X6_add 18 rfl) 5 rfl ?_
    refine g_iconst C (dat dt_X6_add 19 rfl) ic_3 ?_
    refine g_imul C (dat dt_X6_add 20 rfl) ?_
    refine g_iconst C (dat dt_X6_add 21 rfl) ic_1 ?_
    refine g_iadd C (dat dt_X6_add 22 rfl) ?_
    refine g_iload_n C (dat dt_X6_add 23 rfl) 2 rfl ?_
    obtain ⟨j4, q5, hrun⟩ := bd hrun
    refine g_iast (j := j4) C (dat dt_X6_add 24 rfl) Ha0.2.1 (rb1 Ha0) q5  ?_
    refine g_aload_n C (dat dt_X6_add 25 rfl) 0 rfl ?_
    refine g_getR C (dat dt_X6_add 26 rfl) fl_6_9 Ha0.1 rfl (rb0 Ha0) ?_
    refine g_iload C (dat dt_X6_add 27 rfl) 5 rfl ?_
    refine g_iconst C (dat dt_X6_add 28 rfl) ic_3 ?_
    refine g_imul C (dat dt_X6_add 29 rfl) ?_
    refine g_iconst C (dat dt_X6_add 30 rfl) ic_2 ?_
    refine g_iadd C (dat dt_X6_add 31 rfl) ?_
    refine g_iload_n C (dat dt_X6_add 32 rfl) 3 rfl ?_
    obtain ⟨j6, q7, hrun⟩ := bd hrun
    refine g_iast (j := j6) C (dat dt_X6_add 33 rfl) Ha0.2.1 (rb1 Ha0) q7  ?_
    refine g_aload_n C (dat dt_X6_add 34 rfl) 0 rfl ?_
    refine g_getR C (dat dt_X6_add 35 rfl) fl_6_15 Ha0.1 rfl (rb0 Ha0) ?_
    refine g_iload C (dat dt_X6_add 36 rfl) 5 rfl ?_
    refine g_iload C (dat dt_X6_add 37 rfl) 4 rfl ?_
    obtain ⟨j8, q9, hrun⟩ := bd hrun
    refine g_iast (j := j8) C (dat dt_X6_add 38 rfl) Ha0.2.2.1 (rb2 Ha0) q9  ?_
    refine g_aload_n C (dat dt_X6_add 39 rfl) 0 rfl ?_
    refine g_getR C (dat dt_X6_add 40 rfl) fl_6_18 Ha0.1 rfl (rb0 Ha0) ?_
    refine g_iload C (dat dt_X6_add 41 rfl) 5 rfl ?_
    refine g_iconst C (dat dt_X6_add 42 rfl) ic_m1 ?_
    obtain ⟨j10, q11, hrun⟩ := bd hrun
    refine g_iast (j := j10) C (dat dt_X6_add 43 rfl) Ha0.2.2.2.1 (rb3 Ha0) q11  ?_
    refine g_aload_n C (dat dt_X6_add 44 rfl) 0 rfl ?_
    refine g_dup C (dat dt_X6_add 45 rfl) rfl ?_
    refine g_getI C (dat dt_X6_add 46 rfl) fl_6_33 Ha0.1 rfl (rb0 Ha0) ?_
    refine g_iconst C (dat dt_X6_add 47 rfl) ic_1 ?_
    refine g_iadd C (dat dt_X6_add 48 rfl) ?_
    refine g_putI C (dat dt_X6_add 49 rfl) fl_6_33 rfl rfl Ha0.1 rfl (rb0 Ha0) ?_
    refine g_iload C (dat dt_X6_add 50 rfl) 5 rfl ?_
    cases hrun
    exact g_iret C K (dat dt_X6_add 51 rfl)
  · rw [if_neg c1] at hrun
    refine g_iconst C (dat dt_X6_add 4 rfl) ic_m1 ?_
    cases hrun
    exact g_iret C K (dat dt_X6_add 5 rfl)
/-! SteamNations$Room.has(I)Z -/
def dl_X6_has : List (Nat × Instr × Nat) := [(0, .iload_n 1, 1), (1, .ifCond .lt 15, 3), (4, .iload_n 1, 1), (5, .aload_n 0, 1), (6, .getfield 33, 3), (9, .if_icmp .ge 7, 3), (12, .iconst 1, 1), (13, .goto 4, 3), (16, .iconst 0, 1), (17, .ireturn, 1)]
set_option maxRecDepth 20000 in
theorem dt_X6_has : ∀ q ∈ dl_X6_has, decode prog_8_method_4_code q.1 = .ok q.2 := by decide +kernel
def f_X6_has (a0 : Nat) (x1 : Int32) (h : Hp) : Option Bool :=
  if x1 < 0 then
  some false
  else
  if (fI h a0 0) ≤ x1 then
  some false
  else
  some true
set_option maxRecDepth 20000 in
theorem w_X6_has (a0 : Nat) (x1 : Int32) (h : Hp) (q : Bool) (Ha0 : IsRoom a0) (hrun : f_X6_has a0 x1 h = some q) : MetA ⟨"SteamNations$Room", "has", "(I)Z"⟩ prog_8_method_4_code 2 (some .boolean) 1 0 0 [.ref a0, .int x1] h (some (.int (b2i q))) h := by
  refine metA_of rfl (Nat.le_of_ble_eq_true rfl) (fun X C K => ?_)
  have C : Cx X cn_6 prog_8_method_4_code 2 (some .boolean) 1 0 0 := C
  show G X h 0 0 0 [(0, .ref a0), (1, .int x1)] []
  unfold f_X6_has at hrun
  refine g_iload_n C (dat dt_X6_has 0 rfl) 1 rfl ?_
  refine g_if_lt 16 C (dat dt_X6_has 1 rfl) (by decide) (fun c1 => ?_) (fun c1 => ?_)
  · rw [if_pos c1] at hrun
    refine g_iconst C (dat dt_X6_has 8 rfl) ic_0 ?_
    cases hrun
    exact g_zret C K (by decide) (dat dt_X6_has 9 rfl)
  · rw [if_neg c1] at hrun
    refine g_iload_n C (dat dt_X6_has 2 rfl) 1 rfl ?_
    refine g_aload_n C (dat dt_X6_has 3 rfl) 0 rfl ?_
    refine g_getI C (dat dt_X6_has 4 rfl) fl_6_33 Ha0.1 rfl (rb0 Ha0) ?_
    refine g_ic_ge 16 C (dat dt_X6_has 5 rfl) (by decide) (fun c2 => ?_) (fun c2 => ?_)
    · rw [if_pos c2] at hrun
      refine g_iconst C (dat dt_X6_has 8 rfl) ic_0 ?_
      cases hrun
      exact g_zret C K (by decide) (dat dt_X6_has 9 rfl)
    · rw [if_neg c2] at hrun
      refine g_iconst C (dat dt_X6_has 6 rfl) ic_1 ?_
      refine g_goto 17 C (dat dt_X6_has 7 rfl) (by decide) ?_
      cases hrun
      exact g_zret C K (by decide) (dat dt_X6_has 9 rfl)
/-! SteamNations$Room.isInside(I)Z -/
def dl_X6_isInside : List (Nat × Instr × Nat) := [(0, .aload_n 0, 1), (1, .iload_n 1, 1), (2, .invokevirtual 37, 3), (5, .ifCond .eq 17, 3), (8, .aload_n 0, 1), (9, .getfield 18, 3), (12, .iload_n 1, 1), (13, .iaload, 1), (14, .iconst (-1), 1), (15, .if_icmp .eq 7, 3), (18, .iconst 1, 1), (19, .goto 4, 3), (22, .iconst 0, 1), (23, .ireturn, 1)]
set_option maxRecDepth 20000 in
theorem dt_X6_isInside : ∀ q ∈ dl_X6_isInside, decode prog_8_method_5_code q.1 = .ok q.2 := by decide +kernel
def f_X6_isInside (a0 : Nat) (x1 : Int32) (h : Hp) : Option Bool :=
  (f_X6_has a0 x1 h).bind fun v1 =>
  if v1 = true then
  (inb x1 6).bind fun j4 =>
  if (aI h (a0 + 3) j4) = (-1 : Int32) then
  some false
  else
  some true
  else
  some false
set_option maxRecDepth 20000 in
theorem w_X6_isInside (a0 : Nat) (x1 : Int32) (h : Hp) (q : Bool) (Ha0 : IsRoom a0) (hrun : f_X6_isInside a0 x1 h = some q) : MetA ⟨"SteamNations$Room", "isInside", "(I)Z"⟩ prog_8_method_5_code 2 (some .boolean) 2 0 0 [.ref a0, .int x1] h (some (.int (b2i q))) h := by
  refine metA_of rfl (Nat.le_of_ble_eq_true rfl) (fun X C K => ?_)
  have C : Cx X cn_6 prog_8_method_5_code 2 (some .boolean) 2 0 0 := C
  show G X h 0 0 0 [(0, .ref a0), (1, .int x1)] []
  unfold f_X6_isInside at hrun
  refine g_aload_n C (dat dt_X6_isInside 0 rfl) 0 rfl ?_
  refine g_iload_n C (dat dt_X6_isInside 1 rfl) 1 rfl ?_
  obtain ⟨v1, q2, hrun⟩ := bd hrun
  refine g_cVi [.int x1] C (dat dt_X6_isInside 2 rfl) ml_6_37 (w_X6_has a0 x1 h v1 Ha0 q2) Ha0.1 (rb0 Ha0) rfl rfl cat0 (by decide) c00 ?_
  refine g_if_eq 22 C (dat dt_X6_isInside 3 rfl) (by decide) (fun c3 => ?_) (fun c3 => ?_)
  · rw [if_neg (b2i_z c3)] at hrun
    refine g_iconst C (dat dt_X6_isInside 12 rfl) ic_0 ?_
    cases hrun
    exact g_zret C K (by decide) (dat dt_X6_isInside 13 rfl)
  · rw [if_pos (b2i_nz c3)] at hrun
    refine g_aload_n C (dat dt_X6_isInside 4 rfl) 0 rfl ?_
    refine g_getR C (dat dt_X6_isInside 5 rfl) fl_6_18 Ha0.1 rfl (rb0 Ha0) ?_
    refine g_iload_n C (dat dt_X6_isInside 6 rfl) 1 rfl ?_
    obtain ⟨j4, q5, hrun⟩ := bd hrun
    refine g_iald C (dat dt_X6_isInside 7 rfl) Ha0.2.2.2.1 (rb3 Ha0) q5 ?_
    refine g_iconst C (dat dt_X6_isInside 8 rfl) ic_m1 ?_
    refine g_ic_eq 22 C (dat dt_X6_isInside 9 rfl) (by decide) (fun c6 => ?_) (fun c6 => ?_)
    · rw [if_pos c6] at hrun
      refine g_iconst C (dat dt_X6_isInside 12 rfl) ic_0 ?_
      cases hrun
      exact g_zret C K (by decide) (dat dt_X6_isInside 13 rfl)
    · rw [if_neg c6] at hrun
      refine g_iconst C (dat dt_X6_isInside 10 rfl) ic_1 ?_
      refine g_goto 23 C (dat dt_X6_isInside 11 rfl) (by decide) ?_
      cases hrun
      exact g_zret C K (by decide) (dat dt_X6_isInside 13 rfl)
/-! SteamNations$Room.whoAt(I)I -/
def dl_X6_whoAt : List (Nat × Instr × Nat) := [(0, .iconst 0, 1), (1, .istore_n 2, 1), (2, .iload_n 2, 1), (3, .aload_n 0, 1), (4, .getfield 33, 3), (7, .if_icmp .ge 26, 3), (10, .aload_n 0, 1), (11, .getfield 18, 3), (14, .iload_n 2, 1), (15, .iaload, 1), (16, .iload_n 1, 1), (17, .if_icmp .ne 10, 3), (20, .iload_n 1, 1), (21, .iconst (-1), 1), (22, .if_icmp .eq 5, 3), (25, .iload_n 2, 1), (26, .ireturn, 1), (27, .iinc 2 1, 3), (30, .goto (-28), 3), (33, .iconst (-1), 1), (34, .ireturn, 1)]
set_option maxRecDepth 20000 in
theorem dt_X6_whoAt : ∀ q ∈ dl_X6_whoAt, decode prog_8_method_6_code q.1 = .ok q.2 := by decide +kernel
def kp_X6_whoAt_2 (a0 : Nat) (x1 : Int32) (h : Hp) (X : Xt) (s : Int32) : Prop := G X h 0 0 2 [(0, .ref a0), (1, .int x1), (2, .int s)] []
def ke_X6_whoAt_2 (a0 : Nat) (x1 : Int32) (h : Hp) (X : Xt) (e : (Unit ⊕ Int32)) : Prop := match e with
  | .inl e => G X h 0 0 33 [] []
  | .inr (e) => G X h 0 0 25 [(2, .int e)] []
def b_X6_whoAt_2 (a0 : Nat) (x1 : Int32) (x2 : Int32) (h : Hp) : Option (Int32 ⊕ (Unit ⊕ Int32)) :=
  if (fI h a0 0) ≤ x2 then
  some (.inr (.inl ()))
  else
  (inb x2 6).bind fun j2 =>
  if (aI h (a0 + 3) j2) = x1 then
  if x1 = (-1 : Int32) then
  some (.inl (x2 + (1 : Int32)))
  else
  some (.inr (.inr <| id x2))
  else
  some (.inl (x2 + (1 : Int32)))
set_option maxRecDepth 20000 in
theorem wb_X6_whoAt_2 {X : Xt} (C : Cx X cn_6 prog_8_method_6_code 3 (some .int) 1 0 0) (a0 : Nat) (Ha0 : IsRoom a0) (x1 : Int32) (x2 : Int32) (h : Hp) (q : Int32 ⊕ (Unit ⊕ Int32)) (hrun : b_X6_whoAt_2 a0 x1 x2 h = some q) (Ks : ∀ s, q = .inl s → kp_X6_whoAt_2 a0 x1 h X s) (Ke : ∀ e, q = .inr e → ke_X6_whoAt_2 a0 x1 h X e) : kp_X6_whoAt_2 a0 x1 h X x2 := by
  show G X h 0 0 2 [(0, .ref a0), (1, .int x1), (2, .int x2)] []
  unfold b_X6_whoAt_2 at hrun
  refine g_iload_n C (dat dt_X6_whoAt 2 rfl) 2 rfl ?_
  refine g_aload_n C (dat dt_X6_whoAt 3 rfl) 0 rfl ?_
  refine g_getI C (dat dt_X6_whoAt 4 rfl) fl_6_33 Ha0.1 rfl (rb0 Ha0) ?_
  refine g_ic_ge 33 C (dat dt_X6_whoAt 5 rfl) (by decide) (fun c1 => ?_) (fun c1 => ?_)
  · rw [if_pos c1] at hrun
    refine g_sub [] (lv' := []) rfl ?_
    cases hrun
    exact Ke _ rfl
  · rw [if_neg c1] at hrun
    refine g_aload_n C (dat dt_X6_whoAt 6 rfl) 0 rfl ?_
    refine g_getR C (dat dt_X6_whoAt 7 rfl) fl_6_18 Ha0.1 rfl (rb0 Ha0) ?_
    refine g_iload_n C (dat dt_X6_whoAt 8 rfl) 2 rfl ?_
    obtain ⟨j2, q3, hrun⟩ := bd hrun
    refine g_iald C (dat dt_X6_whoAt 9 rfl) Ha0.2.2.2.1 (rb3 Ha0) q3 ?_
    refine g_iload_n C (dat dt_X6_whoAt 10 rfl) 1 rfl ?_
    refine g_ic_ne 27 C (dat dt_X6_whoAt 11 rfl) (by decide) (fun c4 => ?_) (fun c4 => ?_)
    · rw [if_neg c4] at hrun
      refine g_iinc (v := (x2 + (1 : Int32))) (lv' := [(0, .ref a0), (1, .int x1), (2, .int (x2 + (1 : Int32)))]) C (dat dt_X6_whoAt 17 rfl) 2 rfl (congrArg (fun z => x2 + z) ic_1) (by decide) rfl ?_
      refine g_goto 2 C (dat dt_X6_whoAt 18 rfl) (by decide) ?_
      cases hrun
      exact Ks _ rfl
    · rw [if_pos c4] at hrun
      refine g_iload_n C (dat dt_X6_whoAt 12 rfl) 1 rfl ?_
      refine g_iconst C (dat dt_X6_whoAt 13 rfl) ic_m1 ?_
      refine g_ic_eq 27 C (dat dt_X6_whoAt 14 rfl) (by decide) (fun c5 => ?_) (fun c5 => ?_)
      · rw [if_pos c5] at hrun
        refine g_iinc (v := (x2 + (1 : Int32))) (lv' := [(0, .ref a0), (1, .int x1), (2, .int (x2 + (1 : Int32)))]) C (dat dt_X6_whoAt 17 rfl) 2 rfl (congrArg (fun z => x2 + z) ic_1) (by decide) rfl ?_
        refine g_goto 2 C (dat dt_X6_whoAt 18 rfl) (by decide) ?_
        cases hrun
        exact Ks _ rfl
      · rw [if_neg c5] at hrun
        refine g_sub [2] (lv' := [(2, .int x2)]) rfl ?_
        cases hrun
        exact Ke _ rfl
def f_X6_whoAt (a0 : Nat) (x1 : Int32) (h : Hp) : Option Int32 :=
  (lp (fun s => b_X6_whoAt_2 a0 x1 s h) FU (0 : Int32)).bind fun e6 =>
  sc e6 (fun e8 =>
  some (-1 : Int32)) (fun e9 =>
  some e9)
set_option maxRecDepth 20000 in
theorem w_X6_whoAt (a0 : Nat) (x1 : Int32) (h : Hp) (q : Int32) (Ha0 : IsRoom a0) (hrun : f_X6_whoAt a0 x1 h = some q) : MetA ⟨"SteamNations$Room", "whoAt", "(I)I"⟩ prog_8_method_6_code 3 (some .int) 1 0 0 [.ref a0, .int x1] h (some (.int q)) h := by
  refine metA_of rfl (Nat.le_of_ble_eq_true rfl) (fun X C K => ?_)
  have C : Cx X cn_6 prog_8_method_6_code 3 (some .int) 1 0 0 := C
  show G X h 0 0 0 [(0, .ref a0), (1, .int x1)] []
  unfold f_X6_whoAt at hrun
  refine g_iconst C (dat dt_X6_whoAt 0 rfl) ic_0 ?_
  refine g_istore_n (lv' := [(0, .ref a0), (1, .int x1), (2, .int (0 : Int32))]) C (dat dt_X6_whoAt 1 rfl) (by decide) rfl ?_
  obtain ⟨e6, q7, hrun⟩ := bd hrun
  refine lp_ind (P := fun s => kp_X6_whoAt_2 a0 x1 h X s) (K := fun e => ke_X6_whoAt_2 a0 x1 h X e) (fun s q hb Ks Ke => wb_X6_whoAt_2 C a0 Ha0 x1 s h q hb Ks Ke) FU (0 : Int32) e6 q7 ?_
  rcases e6 with e8 | e9
  · rw [sc_l] at hrun
    show G X h 0 0 33 [] []
    refine g_iconst C (dat dt_X6_whoAt 19 rfl) ic_m1 ?_
    cases hrun
    exact g_iret C K (dat dt_X6_whoAt 20 rfl)
  · rw [sc_r] at hrun
    show G X h 0 0 25 [(2, .int e9)] []
    refine g_iload_n C (dat dt_X6_whoAt 15 rfl) 0 rfl ?_
    cases hrun
    exact g_iret C K (dat dt_X6_whoAt 16 rfl)
/-! SteamNations.oneIf(Z)I -/
def dl_X10_oneIf : List (Nat × Instr × Nat) := [(0, .iload_n 0, 1), (1, .ifCond .eq 7, 3), (4, .iconst 1, 1), (5, .goto 4, 3), (8, .iconst 0, 1), (9, .ireturn, 1)]
set_option maxRecDepth 20000 in
theorem dt_X10_oneIf : ∀ q ∈ dl_X10_oneIf, decode prog_1_method_54_code q.1 = .ok q.2 := by decide +kernel
def f_X10_oneIf (x0 : Int32) : Option Int32 :=
  if x0 = 0 then
  some (0 : Int32)
  else
  some (1 : Int32)
set_option maxRecDepth 20000 in
theorem w_X10_oneIf (x0 : Int32) (h : Hp) (q : Int32)  (hrun : f_X10_oneIf x0 = some q) : MetA ⟨"SteamNations", "oneIf", "(Z)I"⟩ prog_1_method_54_code 1 (some .int) 1 0 0 [.int x0] h (some (.int q)) h := by
  refine metA_of rfl (Nat.le_of_ble_eq_true rfl) (fun X C K => ?_)
  have C : Cx X cn_10 prog_1_method_54_code 1 (some .int) 1 0 0 := C
  show G X h 0 0 0 [(0, .int x0)] []
  unfold f_X10_oneIf at hrun
  refine g_iload_n C (dat dt_X10_oneIf 0 rfl) 0 rfl ?_
  refine g_if_eq 8 C (dat dt_X10_oneIf 1 rfl) (by decide) (fun c1 => ?_) (fun c1 => ?_)
  · rw [if_pos c1] at hrun
    refine g_iconst C (dat dt_X10_oneIf 4 rfl) ic_0 ?_
    cases hrun
    exact g_iret C K (dat dt_X10_oneIf 5 rfl)
  · rw [if_neg c1] at hrun
    refine g_iconst C (dat dt_X10_oneIf 2 rfl) ic_1 ?_
    refine g_goto 9 C (dat dt_X10_oneIf 3 rfl) (by decide) ?_
    cases hrun
    exact g_iret C K (dat dt_X10_oneIf 5 rfl)
/-! SteamNations$Room.countInside()I -/
def dl_X6_countInside : List (Nat × Instr × Nat) := [(0, .iconst 0, 1), (1, .istore_n 1, 1), (2, .iconst 0, 1), (3, .istore_n 2, 1), (4, .iload_n 2, 1), (5, .aload_n 0, 1), (6, .getfield 33, 3), (9, .if_icmp .ge 30, 3), (12, .iload_n 1, 1), (13, .aload_n 0, 1), (14, .getfield 18, 3), (17, .iload_n 2, 1), (18, .iaload, 1), (19, .iconst (-1), 1), (20, .if_icmp .eq 7, 3), (23, .iconst 1, 1), (24, .goto 4, 3), (27, .iconst 0, 1), (28, .invokestatic 41, 3), (31, .iadd, 1), (32, .istore_n 1, 1), (33, .iinc 2 1, 3), (36, .goto (-32), 3), (39, .iload_n 1, 1), (40, .ireturn, 1)]
set_option maxRecDepth 20000 in
theorem dt_X6_countInside : ∀ q ∈ dl_X6_countInside, decode prog_8_method_7_code q.1 = .ok q.2 := by decide +kernel
def kp_X6_countInside_4 (a0 : Nat)  (h : Hp) (X : Xt) (s : (Int32 × Int32)) : Prop := G X h 0 0 4 [(0, .ref a0), (1, .int s.1), (2, .int s.2)] []
def ke_X6_countInside_4 (a0 : Nat)  (h : Hp) (X : Xt) (e : Int32) : Prop := G X h 0 0 39 [(1, .int e)] []
def j_X6_countInside_28_4 (a0 : Nat) (x2 : Int32) (s0 : Int32) (s1 : Int32) (h : Hp) : Option ((Int32 × Int32) ⊕ Int32) :=
  (f_X10_oneIf s1).bind fun v5 =>
  some (.inl ((s0 + v5), (x2 + (1 : Int32))))
set_option maxRecDepth 20000 in
theorem wj_X6_countInside_28_4 {X : Xt} (C : Cx X cn_6 prog_8_method_7_code 3 (some .int) 2 0 0) (a0 : Nat) (Ha0 : IsRoom a0)  (x2 : Int32) (s0 : Int32) (s1 : Int32) (h : Hp) (q : (Int32 × Int32) ⊕ Int32) (hrun : j_X6_countInside_28_4 a0 x2 s0 s1 h = some q) (Ks : ∀ s, q = .inl s → kp_X6_countInside_4 a0  h X s) (Ke : ∀ e, q = .inr e → ke_X6_countInside_4 a0  h X e) : G X h 0 0 28 [(0, .ref a0), (2, .int x2)] [.int s1, .int s0] := by
  unfold j_X6_countInside_28_4 at hrun
  obtain ⟨v5, q6, hrun⟩ := bd hrun
  refine g_cNi [.int s1] C (dat dt_X6_countInside 18 rfl) ml_6_41 (w_X10_oneIf s1 h v5  q6) rfl rfl (Nat.le_of_ble_eq_true rfl) (by decide) c00 ?_
  refine g_iadd C (dat dt_X6_countInside 19 rfl) ?_
  refine g_istore_n (lv' := [(0, .ref a0), (1, .int (s0 + v5)), (2, .int x2)]) C (dat dt_X6_countInside 20 rfl) (by decide) rfl ?_
  refine g_iinc (v := (x2 + (1 : Int32))) (lv' := [(0, .ref a0), (1, .int (s0 + v5)), (2, .int (x2 + (1 : Int32)))]) C (dat dt_X6_countInside 21 rfl) 2 rfl (congrArg (fun z => x2 + z) ic_1) (by decide) rfl ?_
  refine g_goto 4 C (dat dt_X6_countInside 22 rfl) (by decide) ?_
  cases hrun
  exact Ks _ rfl
def b_X6_countInside_4 (a0 : Nat)  (x1 : Int32) (x2 : Int32) (h : Hp) : Option ((Int32 × Int32) ⊕ Int32) :=
  if (fI h a0 0) ≤ x2 then
  some (.inr ( x1))
  else
  (inb x2 6).bind fun j2 =>
  if (aI h (a0 + 3) j2) = (-1 : Int32) then
  j_X6_countInside_28_4 a0 x2 x1 (0 : Int32) h
  else
  j_X6_countInside_28_4 a0 x2 x1 (1 : Int32) h
set_option maxRecDepth 20000 in
theorem wb_X6_countInside_4 {X : Xt} (C : Cx X cn_6 prog_8_method_7_code 3 (some .int) 2 0 0) (a0 : Nat) (Ha0 : IsRoom a0)  (x1 : Int32) (x2 : Int32) (h : Hp) (q : (Int32 × Int32) ⊕ Int32) (hrun : b_X6_countInside_4 a0  x1 x2 h = some q) (Ks : ∀ s, q = .inl s → kp_X6_countInside_4 a0  h X s) (Ke : ∀ e, q = .inr e → ke_X6_countInside_4 a0  h X e) : kp_X6_countInside_4 a0  h X (x1, x2) := by
  show G X h 0 0 4 [(0, .ref a0), (1, .int x1), (2, .int x2)] []
  unfold b_X6_countInside_4 at hrun
  refine g_iload_n C (dat dt_X6_countInside 4 rfl) 2 rfl ?_
  refine g_aload_n C (dat dt_X6_countInside 5 rfl) 0 rfl ?_
  refine g_getI C (dat dt_X6_countInside 6 rfl) fl_6_33 Ha0.1 rfl (rb0 Ha0) ?_
  refine g_ic_ge 39 C (dat dt_X6_countInside 7 rfl) (by decide) (fun c1 => ?_) (fun c1 => ?_)
  · rw [if_pos c1] at hrun
    refine g_sub [1] (lv' := [(1, .int x1)]) rfl ?_
    cases hrun
    exact Ke _ rfl
  · rw [if_neg c1] at hrun
    refine g_iload_n C (dat dt_X6_countInside 8 rfl) 1 rfl ?_
    refine g_aload_n C (dat dt_X6_countInside 9 rfl) 0 rfl ?_
    refine g_getR C (dat dt_X6_countInside 10 rfl) fl_6_18 Ha0.1 rfl (rb0 Ha0) ?_
    refine g_iload_n C (dat dt_X6_countInside 11 rfl) 2 rfl ?_
    obtain ⟨j2, q3, hrun⟩ := bd hrun
    refine g_iald C (dat dt_X6_countInside 12 rfl) Ha0.2.2.2.1 (rb3 Ha0) q3 ?_
    refine g_iconst C (dat dt_X6_countInside 13 rfl) ic_m1 ?_
    refine g_ic_eq 27 C (dat dt_X6_countInside 14 rfl) (by decide) (fun c4 => ?_) (fun c4 => ?_)
    · rw [if_pos c4] at hrun
      refine g_iconst C (dat dt_X6_countInside 17 rfl) ic_0 ?_
      refine g_sub [0, 2] (lv' := [(0, .ref a0), (2, .int x2)]) rfl ?_
      exact wj_X6_countInside_28_4 C a0 Ha0  x2 x1 (0 : Int32) h _ hrun Ks Ke
    · rw [if_neg c4] at hrun
      refine g_iconst C (dat dt_X6_countInside 15 rfl) ic_1 ?_
      refine g_goto 28 C (dat dt_X6_countInside 16 rfl) (by decide) ?_
      refine g_sub [0, 2] (lv' := [(0, .ref a0), (2, .int x2)]) rfl ?_
      exact wj_X6_countInside_28_4 C a0 Ha0  x2 x1 (1 : Int32) h _ hrun Ks Ke
def f_X6_countInside (a0 : Nat) (h : Hp) : Option Int32 :=
  (lp (fun s => b_X6_countInside_4 a0  s.1 s.2 h) FU ((0 : Int32), (0 : Int32))).bind fun e7 =>
  some e7
set_option maxRecDepth 20000 in
theorem w_X6_countInside (a0 : Nat) (h : Hp) (q : Int32) (Ha0 : IsRoom a0) (hrun : f_X6_countInside a0 h = some q) : MetA ⟨"SteamNations$Room", "countInside", "()I"⟩ prog_8_method_7_code 3 (some .int) 2 0 0 [.ref a0] h (some (.int q)) h := by
  refine metA_of rfl (Nat.le_of_ble_eq_true rfl) (fun X C K => ?_)
  have C : Cx X cn_6 prog_8_method_7_code 3 (some .int) 2 0 0 := C
  show G X h 0 0 0 [(0, .ref a0)] []
  unfold f_X6_countInside at hrun
  refine g_iconst C (dat dt_X6_countInside 0 rfl) ic_0 ?_
  refine g_istore_n (lv' := [(0, .ref a0), (1, .int (0 : Int32))]) C (dat dt_X6_countInside 1 rfl) (by decide) rfl ?_
  refine g_iconst C (dat dt_X6_countInside 2 rfl) ic_0 ?_
  refine g_istore_n (lv' := [(0, .ref a0), (1, .int (0 : Int32)), (2, .int (0 : Int32))]) C (dat dt_X6_countInside 3 rfl) (by decide) rfl ?_
  obtain ⟨e7, q8, hrun⟩ := bd hrun
  refine lp_ind (P := fun s => kp_X6_countInside_4 a0  h X s) (K := fun e => ke_X6_countInside_4 a0  h X e) (fun s q hb Ks Ke => wb_X6_countInside_4 C a0 Ha0  s.1 s.2 h q hb Ks Ke) FU ((0 : Int32), (0 : Int32)) e7 q8 ?_
  show G X h 0 0 39 [(1, .int e7)] []
  refine g_iload_n C (dat dt_X6_countInside 23 rfl) 0 rfl ?_
  cases hrun
  exact g_iret C K (dat dt_X6_countInside 24 rfl)
/-! SteamNations$Room.nationOf(I)I -/
def dl_X6_nationOf : List (Nat × Instr × Nat) := [(0, .iload_n 1, 1), (1, .ifCond .lt 11, 3), (4, .iload_n 1, 1), (5, .aload_n 0, 1), (6, .getfield 33, 3), (9, .if_icmp .lt 5, 3), (12, .iconst (-1), 1), (13, .ireturn, 1), (14, .iconst 0, 1), (15, .istore_n 2, 1), (16, .iconst 1, 1), (17, .istore_n 3, 1), (18, .iload_n 3, 1), (19, .iconst 3, 1), (20, .if_icmp .ge 34, 3), (23, .aload_n 0, 1), (24, .getfield 9, 3), (27, .iload_n 1, 1), (28, .iconst 3, 1), (29, .imul, 1), (30, .iload_n 3, 1), (31, .iadd, 1), (32, .iaload, 1), (33, .aload_n 0, 1), (34, .getfield 9, 3), (37, .iload_n 1, 1), (38, .iconst 3, 1), (39, .imul, 1), (40, .iload_n 2, 1), (41, .iadd, 1), (42, .iaload, 1), (43, .if_icmp .le 5, 3), (46, .iload_n 3, 1), (47, .istore_n 2, 1), (48, .iinc 3 1, 3), (51, .goto (-33), 3), (54, .iload_n 2, 1), (55, .ireturn, 1)]
set_option maxRecDepth 20000 in
theorem dt_X6_nationOf : ∀ q ∈ dl_X6_nationOf, decode prog_8_method_8_code q.1 = .ok q.2 := by decide +kernel
def kp_X6_nationOf_18 (a0 : Nat) (x1 : Int32) (h : Hp) (X : Xt) (s : (Int32 × Int32)) : Prop := G X h 0 0 18 [(0, .ref a0), (1, .int x1), (2, .int s.1), (3, .int s.2)] []
def ke_X6_nationOf_18 (a0 : Nat) (x1 : Int32) (h : Hp) (X : Xt) (e : Int32) : Prop := G X h 0 0 54 [(2, .int e)] []
def b_X6_nationOf_18 (a0 : Nat) (x1 : Int32) (x2 : Int32) (x3 : Int32) (h : Hp) : Option ((Int32 × Int32) ⊕ Int32) :=
  if (3 : Int32) ≤ x3 then
  some (.inr ( x2))
  else
  (inb ((x1 * (3 : Int32)) + x3) 18).bind fun j4 =>
  (inb ((x1 * (3 : Int32)) + x2) 18).bind fun j6 =>
  if (aI h (a0 + 1) j4) ≤ (aI h (a0 + 1) j6) then
  some (.inl (x2, (x3 + (1 : Int32))))
  else
  some (.inl (x3, (x3 + (1 : Int32))))
set_option maxRecDepth 20000 in
theorem wb_X6_nationOf_18 {X : Xt} (C : Cx X cn_6 prog_8_method_8_code 4 (some .int) 1 0 0) (a0 : Nat) (Ha0 : IsRoom a0) (x1 : Int32) (x2 : Int32) (x3 : Int32) (h : Hp) (q : (Int32 × Int32) ⊕ Int32) (hrun : b_X6_nationOf_18 a0 x1 x2 x3 h = some q) (Ks : ∀ s, q = .inl s → kp_X6_nationOf_18 a0 x1 h X s) (Ke : ∀ e, q = .inr e → ke_X6_nationOf_18 a0 x1 h X e) : kp_X6_nationOf_18 a0 x1 h X (x2, x3) := by
  show G X h 0 0 18 [(0, .ref a0), (1, .int x1), (2, .int x2), (3, .int x3)] []
  unfold b_X6_nationOf_18 at hrun
  refine g_iload_n C (dat dt_X6_nationOf 12 rfl) 3 rfl ?_
  refine g_iconst C (dat dt_X6_nationOf 13 rfl) ic_3 ?_
  refine g_ic_ge 54 C (dat dt_X6_nationOf 14 rfl) (by decide) (fun c3 => ?_) (fun c3 => ?_)
  · rw [if_pos c3] at hrun
    refine g_sub [2] (lv' := [(2, .int x2)]) rfl ?_
    cases hrun
    exact Ke _ rfl
  · rw [if_neg c3] at hrun
    refine g_aload_n C (dat dt_X6_nationOf 15 rfl) 0 rfl ?_
    refine g_getR C (dat dt_X6_nationOf 16 rfl) fl_6_9 Ha0.1 rfl (rb0 Ha0) ?_
    refine g_iload_n C (dat dt_X6_nationOf 17 rfl) 1 rfl ?_
    refine g_iconst C (dat dt_X6_nationOf 18 rfl) ic_3 ?_
    refine g_imul C (dat dt_X6_nationOf 19 rfl) ?_
    refine g_iload_n C (dat dt_X6_nationOf 20 rfl) 3 rfl ?_
    refine g_iadd C (dat dt_X6_nationOf 21 rfl) ?_
    obtain ⟨j4, q5, hrun⟩ := bd hrun
    refine g_iald C (dat dt_X6_nationOf 22 rfl) Ha0.2.1 (rb1 Ha0) q5 ?_
    refine g_aload_n C (dat dt_X6_nationOf 23 rfl) 0 rfl ?_
    refine g_getR C (dat dt_X6_nationOf 24 rfl) fl_6_9 Ha0.1 rfl (rb0 Ha0) ?_
    refine g_iload_n C (dat dt_X6_nationOf 25 rfl) 1 rfl ?_
    refine g_iconst C (dat dt_X6_nationOf 26 rfl) ic_3 ?_
    refine g_imul C (dat dt_X6_nationOf 27 rfl) ?_
    refine g_iload_n C (dat dt_X6_nationOf 28 rfl) 2 rfl ?_
    refine g_iadd C (dat dt_X6_nationOf 29 rfl) ?_
    obtain ⟨j6, q7, hrun⟩ := bd hrun
    refine g_iald C (dat dt_X6_nationOf 30 rfl) Ha0.2.1 (rb1 Ha0) q7 ?_
    refine g_ic_le 48 C (dat dt_X6_nationOf 31 rfl) (by decide) (fun c8 => ?_) (fun c8 => ?_)
    · rw [if_pos c8] at hrun
      refine g_iinc (v := (x3 + (1 : Int32))) (lv' := [(0, .ref a0), (1, .int x1), (2, .int x2), (3, .int (x3 + (1 : Int32)))]) C (dat dt_X6_nationOf 34 rfl) 3 rfl (congrArg (fun z => x3 + z) ic_1) (by decide) rfl ?_
      refine g_goto 18 C (dat dt_X6_nationOf 35 rfl) (by decide) ?_
      cases hrun
      exact Ks _ rfl
    · rw [if_neg c8] at hrun
      refine g_iload_n C (dat dt_X6_nationOf 32 rfl) 3 rfl ?_
      refine g_istore_n (lv' := [(0, .ref a0), (1, .int x1), (2, .int x3), (3, .int x3)]) C (dat dt_X6_nationOf 33 rfl) (by decide) rfl ?_
      refine g_iinc (v := (x3 + (1 : Int32))) (lv' := [(0, .ref a0), (1, .int x1), (2, .int x3), (3, .int (x3 + (1 : Int32)))]) C (dat dt_X6_nationOf 34 rfl) 3 rfl (congrArg (fun z => x3 + z) ic_1) (by decide) rfl ?_
      refine g_goto 18 C (dat dt_X6_nationOf 35 rfl) (by decide) ?_
      cases hrun
      exact Ks _ rfl
def f_X6_nationOf (a0 : Nat) (x1 : Int32) (h : Hp) : Option Int32 :=
  if x1 < 0 then
  some (-1 : Int32)
  else
  if x1 < (fI h a0 0) then
  (lp (fun s => b_X6_nationOf_18 a0 x1 s.1 s.2 h) FU ((0 : Int32), (1 : Int32))).bind fun e9 =>
  some e9
  else
  some (-1 : Int32)
set_option maxRecDepth 20000 in
theorem w_X6_nationOf (a0 : Nat) (x1 : Int32) (h : Hp) (q : Int32) (Ha0 : IsRoom a0) (hrun : f_X6_nationOf a0 x1 h = some q) : MetA ⟨"SteamNations$Room", "nationOf", "(I)I"⟩ prog_8_method_8_code 4 (some .int) 1 0 0 [.ref a0, .int x1] h (some (.int q)) h := by
  refine metA_of rfl (Nat.le_of_ble_eq_true rfl) (fun X C K => ?_)
  have C : Cx X cn_6 prog_8_method_8_code 4 (some .int) 1 0 0 := C
  show G X h 0 0 0 [(0, .ref a0), (1, .int x1)] []
  unfold f_X6_nationOf at hrun
  refine g_iload_n C (dat dt_X6_nationOf 0 rfl) 1 rfl ?_
  refine g_if_lt 12 C (dat dt_X6_nationOf 1 rfl) (by decide) (fun c1 => ?_) (fun c1 => ?_)
  · rw [if_pos c1] at hrun
    refine g_iconst C (dat dt_X6_nationOf 6 rfl) ic_m1 ?_
    cases hrun
    exact g_iret C K (dat dt_X6_nationOf 7 rfl)
  · rw [if_neg c1] at hrun
    refine g_iload_n C (dat dt_X6_nationOf 2 rfl) 1 rfl ?_
    refine g_aload_n C (dat dt_X6_nationOf 3 rfl) 0 rfl ?_
    refine g_getI C (dat dt_X6_nationOf 4 rfl) fl_6_33 Ha0.1 rfl (rb0 Ha0) ?_
    refine g_ic_lt 14 C (dat dt_X6_nationOf 5 rfl) (by decide) (fun c2 => ?_) (fun c2 => ?_)
    · rw [if_pos c2] at hrun
      refine g_iconst C (dat dt_X6_nationOf 8 rfl) ic_0 ?_
      refine g_istore_n (lv' := [(0, .ref a0), (1, .int x1), (2, .int (0 : Int32))]) C (dat dt_X6_nationOf 9 rfl) (by decide) rfl ?_
      refine g_iconst C (dat dt_X6_nationOf 10 rfl) ic_1 ?_
      refine g_istore_n (lv' := [(0, .ref a0), (1, .int x1), (2, .int (0 : Int32)), (3, .int (1 : Int32))]) C (dat dt_X6_nationOf 11 rfl) (by decide) rfl ?_
      obtain ⟨e9, q10, hrun⟩ := bd hrun
      refine lp_ind (P := fun s => kp_X6_nationOf_18 a0 x1 h X s) (K := fun e => ke_X6_nationOf_18 a0 x1 h X e) (fun s q hb Ks Ke => wb_X6_nationOf_18 C a0 Ha0 x1 s.1 s.2 h q hb Ks Ke) FU ((0 : Int32), (1 : Int32)) e9 q10 ?_
      show G X h 0 0 54 [(2, .int e9)] []
      refine g_iload_n C (dat dt_X6_nationOf 36 rfl) 0 rfl ?_
      cases hrun
      exact g_iret C K (dat dt_X6_nationOf 37 rfl)
    · rw [if_neg c2] at hrun
      refine g_iconst C (dat dt_X6_nationOf 6 rfl) ic_m1 ?_
      cases hrun
      exact g_iret C K (dat dt_X6_nationOf 7 rfl)
/-! SteamNations$Room.muchOf(I)I -/
def dl_X6_muchOf : List (Nat × Instr × Nat) := [(0, .aload_n 0, 1), (1, .iload_n 1, 1), (2, .invokevirtual 37, 3), (5, .ifCond .eq 20, 3), (8, .aload_n 0, 1), (9, .getfield 9, 3), (12, .iload_n 1, 1), (13, .iconst 3, 1), (14, .imul, 1), (15, .aload_n 0, 1), (16, .iload_n 1, 1), (17, .invokevirtual 45, 3), (20, .iadd, 1), (21, .iaload, 1), (22, .goto 4, 3), (25, .iconst (-1), 1), (26, .ireturn, 1)]
set_option maxRecDepth 20000 in
theorem dt_X6_muchOf : ∀ q ∈ dl_X6_muchOf, decode prog_8_method_9_code q.1 = .ok q.2 := by decide +kernel
def f_X6_muchOf (a0 : Nat) (x1 : Int32) (h : Hp) : Option Int32 :=
  (f_X6_has a0 x1 h).bind fun v1 =>
  if v1 = true then
  (f_X6_nationOf a0 x1 h).bind fun v4 =>
  (inb ((x1 * (3 : Int32)) + v4) 18).bind fun j6 =>
  some (aI h (a0 + 1) j6)
  else
  some (-1 : Int32)
set_option maxRecDepth 20000 in
theorem w_X6_muchOf (a0 : Nat) (x1 : Int32) (h : Hp) (q : Int32) (Ha0 : IsRoom a0) (hrun : f_X6_muchOf a0 x1 h = some q) : MetA ⟨"SteamNations$Room", "muchOf", "(I)I"⟩ prog_8_method_9_code 2 (some .int) 2 0 0 [.ref a0, .int x1] h (some (.int q)) h := by
  refine metA_of rfl (Nat.le_of_ble_eq_true rfl) (fun X C K => ?_)
  have C : Cx X cn_6 prog_8_method_9_code 2 (some .int) 2 0 0 := C
  show G X h 0 0 0 [(0, .ref a0), (1, .int x1)] []
  unfold f_X6_muchOf at hrun
  refine g_aload_n C (dat dt_X6_muchOf 0 rfl) 0 rfl ?_
  refine g_iload_n C (dat dt_X6_muchOf 1 rfl) 1 rfl ?_
  obtain ⟨v1, q2, hrun⟩ := bd hrun
  refine g_cVi [.int x1] C (dat dt_X6_muchOf 2 rfl) ml_6_37 (w_X6_has a0 x1 h v1 Ha0 q2) Ha0.1 (rb0 Ha0) rfl rfl cat0 (by decide) c00 ?_
  refine g_if_eq 25 C (dat dt_X6_muchOf 3 rfl) (by decide) (fun c3 => ?_) (fun c3 => ?_)
  · rw [if_neg (b2i_z c3)] at hrun
    refine g_iconst C (dat dt_X6_muchOf 15 rfl) ic_m1 ?_
    cases hrun
    exact g_iret C K (dat dt_X6_muchOf 16 rfl)
  · rw [if_pos (b2i_nz c3)] at hrun
    refine g_aload_n C (dat dt_X6_muchOf 4 rfl) 0 rfl ?_
    refine g_getR C (dat dt_X6_muchOf 5 rfl) fl_6_9 Ha0.1 rfl (rb0 Ha0) ?_
    refine g_iload_n C (dat dt_X6_muchOf 6 rfl) 1 rfl ?_
    refine g_iconst C (dat dt_X6_muchOf 7 rfl) ic_3 ?_
    refine g_imul C (dat dt_X6_muchOf 8 rfl) ?_
    refine g_aload_n C (dat dt_X6_muchOf 9 rfl) 0 rfl ?_
    refine g_iload_n C (dat dt_X6_muchOf 10 rfl) 1 rfl ?_
    obtain ⟨v4, q5, hrun⟩ := bd hrun
    refine g_cVi [.int x1] C (dat dt_X6_muchOf 11 rfl) ml_6_45 (w_X6_nationOf a0 x1 h v4 Ha0 q5) Ha0.1 (rb0 Ha0) rfl rfl (Nat.le_of_ble_eq_true rfl) (by decide) c00 ?_
    refine g_iadd C (dat dt_X6_muchOf 12 rfl) ?_
    obtain ⟨j6, q7, hrun⟩ := bd hrun
    refine g_iald C (dat dt_X6_muchOf 13 rfl) Ha0.2.1 (rb1 Ha0) q7 ?_
    refine g_goto 26 C (dat dt_X6_muchOf 14 rfl) (by decide) ?_
    cases hrun
    exact g_iret C K (dat dt_X6_muchOf 16 rfl)
/-! SteamNations$Room.contented()I -/
def dl_X6_contented : List (Nat × Instr × Nat) := [(0, .iconst 0, 1), (1, .istore_n 1, 1), (2, .iconst 0, 1), (3, .istore_n 2, 1), (4, .iload_n 2, 1), (5, .aload_n 0, 1), (6, .getfield 33, 3), (9, .if_icmp .ge 34, 3), (12, .iload_n 1, 1), (13, .aload_n 0, 1), (14, .iload_n 2, 1), (15, .invokevirtual 45, 3), (18, .aload_n 0, 1), (19, .getfield 15, 3), (22, .iload_n 2, 1), (23, .iaload, 1), (24, .if_icmp .ne 7, 3), (27, .iconst 1, 1), (28, .goto 4, 3), (31, .iconst 0, 1), (32, .invokestatic 41, 3), (35, .iadd, 1), (36, .istore_n 1, 1), (37, .iinc 2 1, 3), (40, .goto (-36), 3), (43, .iload_n 1, 1), (44, .ireturn, 1)]
set_option maxRecDepth 20000 in
theorem dt_X6_contented : ∀ q ∈ dl_X6_contented, decode prog_8_method_10_code q.1 = .ok q.2 := by decide +kernel
def kp_X6_contented_4 (a0 : Nat)  (h : Hp) (X : Xt) (s : (Int32 × Int32)) : Prop := G X h 0 0 4 [(0, .ref a0), (1, .int s.1), (2, .int s.2)] []
def ke_X6_contented_4 (a0 : Nat)  (h : Hp) (X : Xt) (e : Int32) : Prop := G X h 0 0 43 [(1, .int e)] []
def j_X6_contented_32_4 (a0 : Nat) (x2 : Int32) (s0 : Int32) (s1 : Int32) (h : Hp) : Option ((Int32 × Int32) ⊕ Int32) :=
  (f_X10_oneIf s1).bind fun v7 =>
  some (.inl ((s0 + v7), (x2 + (1 : Int32))))
set_option maxRecDepth 20000 in
theorem wj_X6_contented_32_4 {X : Xt} (C : Cx X cn_6 prog_8_method_10_code 3 (some .int) 2 0 0) (a0 : Nat) (Ha0 : IsRoom a0)  (x2 : Int32) (s0 : Int32) (s1 : Int32) (h : Hp) (q : (Int32 × Int32) ⊕ Int32) (hrun : j_X6_contented_32_4 a0 x2 s0 s1 h = some q) (Ks : ∀ s, q = .inl s → kp_X6_contented_4 a0  h X s) (Ke : ∀ e, q = .inr e → ke_X6_contented_4 a0  h X e) : G X h 0 0 32 [(0, .ref a0), (2, .int x2)] [.int s1, .int s0] := by
  unfold j_X6_contented_32_4 at hrun
  obtain ⟨v7, q8, hrun⟩ := bd hrun
  refine g_cNi [.int s1] C (dat dt_X6_contented 20 rfl) ml_6_41 (w_X10_oneIf s1 h v7  q8) rfl rfl (Nat.le_of_ble_eq_true rfl) (by decide) c00 ?_
  refine g_iadd C (dat dt_X6_contented 21 rfl) ?_
  refine g_istore_n (lv' := [(0, .ref a0), (1, .int (s0 + v7)), (2, .int x2)]) C (dat dt_X6_contented 22 rfl) (by decide) rfl ?_
  refine g_iinc (v := (x2 + (1 : Int32))) (lv' := [(0, .ref a0), (1, .int (s0 + v7)), (2, .int (x2 + (1 : Int32)))]) C (dat dt_X6_contented 23 rfl) 2 rfl (congrArg (fun z => x2 + z) ic_1) (by decide) rfl ?_
  refine g_goto 4 C (dat dt_X6_contented 24 rfl) (by decide) ?_
  cases hrun
  exact Ks _ rfl
def b_X6_contented_4 (a0 : Nat)  (x1 : Int32) (x2 : Int32) (h : Hp) : Option ((Int32 × Int32) ⊕ Int32) :=
  if (fI h a0 0) ≤ x2 then
  some (.inr ( x1))
  else
  (f_X6_nationOf a0 x2 h).bind fun v2 =>
  (inb x2 6).bind fun j4 =>
  if v2 = (aI h (a0 + 2) j4) then
  j_X6_contented_32_4 a0 x2 x1 (1 : Int32) h
  else
  j_X6_contented_32_4 a0 x2 x1 (0 : Int32) h
set_option maxRecDepth 20000 in
theorem wb_X6_contented_4 {X : Xt} (C : Cx X cn_6 prog_8_method_10_code 3 (some .int) 2 0 0) (a0 : Nat) (Ha0 : IsRoom a0)  (x1 : Int32) (x2 : Int32) (h : Hp) (q : (Int32 × Int32) ⊕ Int32) (hrun : b_X6_contented_4 a0  x1 x2 h = some q) (Ks : ∀ s, q = .inl s → kp_X6_contented_4 a0  h X s) (Ke : ∀ e, q = .inr e → ke_X6_contented_4 a0  h X e) : kp_X6_contented_4 a0  h X (x1, x2) := by
  show G X h 0 0 4 [(0, .ref a0), (1, .int x1), (2, .int x2)] []
  unfold b_X6_contented_4 at hrun
  refine g_iload_n C (dat dt_X6_contented 4 rfl) 2 rfl ?_
  refine g_aload_n C (dat dt_X6_contented 5 rfl) 0 rfl ?_
  refine g_getI C (dat dt_X6_contented 6 rfl) fl_6_33 Ha0.1 rfl (rb0 Ha0) ?_
  refine g_ic_ge 43 C (dat dt_X6_contented 7 rfl) (by decide) (fun c1 => ?_) (fun c1 => ?_)
  · rw [if_pos c1] at hrun
    refine g_sub [1] (lv' := [(1, .int x1)]) rfl ?_
    cases hrun
    exact Ke _ rfl
  · rw [if_neg c1] at hrun
    refine g_iload_n C (dat dt_X6_contented 8 rfl) 1 rfl ?_
    refine g_aload_n C (dat dt_X6_contented 9 rfl) 0 rfl ?_
    refine g_iload_n C (dat dt_X6_contented 10 rfl) 2 rfl ?_
    obtain ⟨v2, q3, hrun⟩ := bd hrun
    refine g_cVi [.int x2] C (dat dt_X6_contented 11 rfl) ml_6_45 (w_X6_nationOf a0 x2 h v2 Ha0 q3) Ha0.1 (rb0 Ha0) rfl rfl (Nat.le_of_ble_eq_true rfl) (by decide) c00 ?_
    refine g_aload_n C (dat dt_X6_contented 12 rfl) 0 rfl ?_
    refine g_getR C (dat dt_X6_contented 13 rfl) fl_6_15 Ha0.1 rfl (rb0 Ha0) ?_
    refine g_iload_n C (dat dt_X6_contented 14 rfl) 2 rfl ?_
    obtain ⟨j4, q5, hrun⟩ := bd hrun
    refine g_iald C (dat dt_X6_contented 15 rfl) Ha0.2.2.1 (rb2 Ha0) q5 ?_
    refine g_ic_ne 31 C (dat dt_X6_contented 16 rfl) (by decide) (fun c6 => ?_) (fun c6 => ?_)
    · rw [if_neg c6] at hrun
      refine g_iconst C (dat dt_X6_contented 19 rfl) ic_0 ?_
      refine g_sub [0, 2] (lv' := [(0, .ref a0), (2, .int x2)]) rfl ?_
      exact wj_X6_contented_32_4 C a0 Ha0  x2 x1 (0 : Int32) h _ hrun Ks Ke
    · rw [if_pos c6] at hrun
      refine g_iconst C (dat dt_X6_contented 17 rfl) ic_1 ?_
      refine g_goto 32 C (dat dt_X6_contented 18 rfl) (by decide) ?_
      refine g_sub [0, 2] (lv' := [(0, .ref a0), (2, .int x2)]) rfl ?_
      exact wj_X6_contented_32_4 C a0 Ha0  x2 x1 (1 : Int32) h _ hrun Ks Ke
def f_X6_contented (a0 : Nat) (h : Hp) : Option Int32 :=
  (lp (fun s => b_X6_contented_4 a0  s.1 s.2 h) FU ((0 : Int32), (0 : Int32))).bind fun e9 =>
  some e9
set_option maxRecDepth 20000 in
theorem w_X6_contented (a0 : Nat) (h : Hp) (q : Int32) (Ha0 : IsRoom a0) (hrun : f_X6_contented a0 h = some q) : MetA ⟨"SteamNations$Room", "contented", "()I"⟩ prog_8_method_10_code 3 (some .int) 2 0 0 [.ref a0] h (some (.int q)) h := by
  refine metA_of rfl (Nat.le_of_ble_eq_true rfl) (fun X C K => ?_)
  have C : Cx X cn_6 prog_8_method_10_code 3 (some .int) 2 0 0 := C
  show G X h 0 0 0 [(0, .ref a0)] []
  unfold f_X6_contented at hrun
  refine g_iconst C (dat dt_X6_contented 0 rfl) ic_0 ?_
  refine g_istore_n (lv' := [(0, .ref a0), (1, .int (0 : Int32))]) C (dat dt_X6_contented 1 rfl) (by decide) rfl ?_
  refine g_iconst C (dat dt_X6_contented 2 rfl) ic_0 ?_
  refine g_istore_n (lv' := [(0, .ref a0), (1, .int (0 : Int32)), (2, .int (0 : Int32))]) C (dat dt_X6_contented 3 rfl) (by decide) rfl ?_
  obtain ⟨e9, q10, hrun⟩ := bd hrun
  refine lp_ind (P := fun s => kp_X6_contented_4 a0  h X s) (K := fun e => ke_X6_contented_4 a0  h X e) (fun s q hb Ks Ke => wb_X6_contented_4 C a0 Ha0  s.1 s.2 h q hb Ks Ke) FU ((0 : Int32), (0 : Int32)) e9 q10 ?_
  show G X h 0 0 43 [(1, .int e9)] []
  refine g_iload_n C (dat dt_X6_contented 25 rfl) 0 rfl ?_
  cases hrun
  exact g_iret C K (dat dt_X6_contented 26 rfl)
/-! SteamNations$Room.allPartsOf(I)I -/
def dl_X6_allPartsOf : List (Nat × Instr × Nat) := [(0, .iconst 0, 1), (1, .istore_n 2, 1), (2, .iconst 0, 1), (3, .istore_n 3, 1), (4, .iload_n 3, 1), (5, .aload_n 0, 1), (6, .getfield 33, 3), (9, .if_icmp .ge 22, 3), (12, .iload_n 2, 1), (13, .aload_n 0, 1), (14, .getfield 9, 3), (17, .iload_n 3, 1), (18, .iconst 3, 1), (19, .imul, 1), (20, .iload_n 1, 1), (21, .iadd, 1), (22, .iaload, 1), (23, .iadd, 1), (24, .istore_n 2, 1), (25, .iinc 3 1, 3), (28, .goto (-24), 3), (31, .iload_n 2, 1), (32, .ireturn, 1)]
set_option maxRecDepth 20000 in
theorem dt_X6_allPartsOf : ∀ q ∈ dl_X6_allPartsOf, decode prog_8_method_11_code q.1 = .ok q.2 := by decide +kernel
def kp_X6_allPartsOf_4 (a0 : Nat) (x1 : Int32) (h : Hp) (X : Xt) (s : (Int32 × Int32)) : Prop := G X h 0 0 4 [(0, .ref a0), (1, .int x1), (2, .int s.1), (3, .int s.2)] []
def ke_X6_allPartsOf_4 (a0 : Nat) (x1 : Int32) (h : Hp) (X : Xt) (e : Int32) : Prop := G X h 0 0 31 [(2, .int e)] []
def b_X6_allPartsOf_4 (a0 : Nat) (x1 : Int32) (x2 : Int32) (x3 : Int32) (h : Hp) : Option ((Int32 × Int32) ⊕ Int32) :=
  if (fI h a0 0) ≤ x3 then
  some (.inr ( x2))
  else
  (inb ((x3 * (3 : Int32)) + x1) 18).bind fun j2 =>
  some (.inl ((x2 + (aI h (a0 + 1) j2)), (x3 + (1 : Int32))))
set_option maxRecDepth 20000 in
theorem wb_X6_allPartsOf_4 {X : Xt} (C : Cx X cn_6 prog_8_method_11_code 4 (some .int) 1 0 0) (a0 : Nat) (Ha0 : IsRoom a0) (x1 : Int32) (x2 : Int32) (x3 : Int32) (h : Hp) (q : (Int32 × Int32) ⊕ Int32) (hrun : b_X6_allPartsOf_4 a0 x1 x2 x3 h = some q) (Ks : ∀ s, q = .inl s → kp_X6_allPartsOf_4 a0 x1 h X s) (Ke : ∀ e, q = .inr e → ke_X6_allPartsOf_4 a0 x1 h X e) : kp_X6_allPartsOf_4 a0 x1 h X (x2, x3) := by
  show G X h 0 0 4 [(0, .ref a0), (1, .int x1), (2, .int x2), (3, .int x3)] []
  unfold b_X6_allPartsOf_4 at hrun
  refine g_iload_n C (dat dt_X6_allPartsOf 4 rfl) 3 rfl ?_
  refine g_aload_n C (dat dt_X6_allPartsOf 5 rfl) 0 rfl ?_
  refine g_getI C (dat dt_X6_allPartsOf 6 rfl) fl_6_33 Ha0.1 rfl (rb0 Ha0) ?_
  refine g_ic_ge 31 C (dat dt_X6_allPartsOf 7 rfl) (by decide) (fun c1 => ?_) (fun c1 => ?_)
  · rw [if_pos c1] at hrun
    refine g_sub [2] (lv' := [(2, .int x2)]) rfl ?_
    cases hrun
    exact Ke _ rfl
  · rw [if_neg c1] at hrun
    refine g_iload_n C (dat dt_X6_allPartsOf 8 rfl) 2 rfl ?_
    refine g_aload_n C (dat dt_X6_allPartsOf 9 rfl) 0 rfl ?_
    refine g_getR C (dat dt_X6_allPartsOf 10 rfl) fl_6_9 Ha0.1 rfl (rb0 Ha0) ?_
    refine g_iload_n C (dat dt_X6_allPartsOf 11 rfl) 3 rfl ?_
    refine g_iconst C (dat dt_X6_allPartsOf 12 rfl) ic_3 ?_
    refine g_imul C (dat dt_X6_allPartsOf 13 rfl) ?_
    refine g_iload_n C (dat dt_X6_allPartsOf 14 rfl) 1 rfl ?_
    refine g_iadd C (dat dt_X6_allPartsOf 15 rfl) ?_
    obtain ⟨j2, q3, hrun⟩ := bd hrun
    refine g_iald C (dat dt_X6_allPartsOf 16 rfl) Ha0.2.1 (rb1 Ha0) q3 ?_
    refine g_iadd C (dat dt_X6_allPartsOf 17 rfl) ?_
    refine g_istore_n (lv' := [(0, .ref a0), (1, .int x1), (2, .int (x2 + (aI h (a0 + 1) j2))), (3, .int x3)]) C (dat dt_X6_allPartsOf 18 rfl) (by decide) rfl ?_
    refine g_iinc (v := (x3 + (1 : Int32))) (lv' := [(0, .ref a0), (1, .int x1), (2, .int (x2 + (aI h (a0 + 1) j2))), (3, .int (x3 + (1 : Int32)))]) C (dat dt_X6_allPartsOf 19 rfl) 3 rfl (congrArg (fun z => x3 + z) ic_1) (by decide) rfl ?_
    refine g_goto 4 C (dat dt_X6_allPartsOf 20 rfl) (by decide) ?_
    cases hrun
    exact Ks _ rfl
def f_X6_allPartsOf (a0 : Nat) (x1 : Int32) (h : Hp) : Option Int32 :=
  (lp (fun s => b_X6_allPartsOf_4 a0 x1 s.1 s.2 h) FU ((0 : Int32), (0 : Int32))).bind fun e4 =>
  some e4
set_option maxRecDepth 20000 in
theorem w_X6_allPartsOf (a0 : Nat) (x1 : Int32) (h : Hp) (q : Int32) (Ha0 : IsRoom a0) (hrun : f_X6_allPartsOf a0 x1 h = some q) : MetA ⟨"SteamNations$Room", "allPartsOf", "(I)I"⟩ prog_8_method_11_code 4 (some .int) 1 0 0 [.ref a0, .int x1] h (some (.int q)) h := by
  refine metA_of rfl (Nat.le_of_ble_eq_true rfl) (fun X C K => ?_)
  have C : Cx X cn_6 prog_8_method_11_code 4 (some .int) 1 0 0 := C
  show G X h 0 0 0 [(0, .ref a0), (1, .int x1)] []
  unfold f_X6_allPartsOf at hrun
  refine g_iconst C (dat dt_X6_allPartsOf 0 rfl) ic_0 ?_
  refine g_istore_n (lv' := [(0, .ref a0), (1, .int x1), (2, .int (0 : Int32))]) C (dat dt_X6_allPartsOf 1 rfl) (by decide) rfl ?_
  refine g_iconst C (dat dt_X6_allPartsOf 2 rfl) ic_0 ?_
  refine g_istore_n (lv' := [(0, .ref a0), (1, .int x1), (2, .int (0 : Int32)), (3, .int (0 : Int32))]) C (dat dt_X6_allPartsOf 3 rfl) (by decide) rfl ?_
  obtain ⟨e4, q5, hrun⟩ := bd hrun
  refine lp_ind (P := fun s => kp_X6_allPartsOf_4 a0 x1 h X s) (K := fun e => ke_X6_allPartsOf_4 a0 x1 h X e) (fun s q hb Ks Ke => wb_X6_allPartsOf_4 C a0 Ha0 x1 s.1 s.2 h q hb Ks Ke) FU ((0 : Int32), (0 : Int32)) e4 q5 ?_
  show G X h 0 0 31 [(2, .int e4)] []
  refine g_iload_n C (dat dt_X6_allPartsOf 21 rfl) 0 rfl ?_
  cases hrun
  exact g_iret C K (dat dt_X6_allPartsOf 22 rfl)
/-! SteamNations$Room.insideAreOne()Z -/
def dl_X6_insideAreOne : List (Nat × Instr × Nat) := [(0, .iconst (-1), 1), (1, .istore_n 1, 1), (2, .iconst 0, 1), (3, .istore_n 2, 1), (4, .iload_n 2, 1), (5, .aload_n 0, 1), (6, .getfield 33, 3), (9, .if_icmp .ge 44, 3), (12, .aload_n 0, 1), (13, .getfield 18, 3), (16, .iload_n 2, 1), (17, .iaload, 1), (18, .iconst (-1), 1), (19, .if_icmp .ne 6, 3), (22, .goto 25, 3), (25, .iload_n 1, 1), (26, .iconst (-1), 1), (27, .if_icmp .eq 14, 3), (30, .aload_n 0, 1), (31, .iload_n 2, 1), (32, .invokevirtual 45, 3), (35, .iload_n 1, 1), (36, .if_icmp .eq 5, 3), (39, .iconst 0, 1), (40, .ireturn, 1), (41, .aload_n 0, 1), (42, .iload_n 2, 1), (43, .invokevirtual 45, 3), (46, .istore_n 1, 1), (47, .iinc 2 1, 3), (50, .goto (-46), 3), (53, .iconst 1, 1), (54, .ireturn, 1)]
set_option maxRecDepth 20000 in
theorem dt_X6_insideAreOne : ∀ q ∈ dl_X6_insideAreOne, decode prog_8_method_12_code q.1 = .ok q.2 := by decide +kernel
def kp_X6_insideAreOne_4 (a0 : Nat)  (h : Hp) (X : Xt) (s : (Int32 × Int32)) : Prop := G X h 0 0 4 [(0, .ref a0), (1, .int s.1), (2, .int s.2)] []
def ke_X6_insideAreOne_4 (a0 : Nat)  (h : Hp) (X : Xt) (e : (Unit ⊕ Unit)) : Prop := match e with
  | .inl e => G X h 0 0 53 [] []
  | .inr (e) => G X h 0 0 39 [] []
def j_X6_insideAreOne_41_4 (a0 : Nat) (x2 : Int32) (h : Hp) : Option ((Int32 × Int32) ⊕ (Unit ⊕ Unit)) :=
  (f_X6_nationOf a0 x2 h).bind fun v6 =>
  some (.inl (v6, (x2 + (1 : Int32))))
set_option maxRecDepth 20000 in
theorem wj_X6_insideAreOne_41_4 {X : Xt} (C : Cx X cn_6 prog_8_method_12_code 3 (some .boolean) 2 0 0) (a0 : Nat) (Ha0 : IsRoom a0)  (x2 : Int32) (h : Hp) (q : (Int32 × Int32) ⊕ (Unit ⊕ Unit)) (hrun : j_X6_insideAreOne_41_4 a0 x2 h = some q) (Ks : ∀ s, q = .inl s → kp_X6_insideAreOne_4 a0  h X s) (Ke : ∀ e, q = .inr e → ke_X6_insideAreOne_4 a0  h X e) : G X h 0 0 41 [(0, .ref a0), (2, .int x2)] [] := by
  unfold j_X6_insideAreOne_41_4 at hrun
  refine g_aload_n C (dat dt_X6_insideAreOne 25 rfl) 0 rfl ?_
  refine g_iload_n C (dat dt_X6_insideAreOne 26 rfl) 1 rfl ?_
  obtain ⟨v6, q7, hrun⟩ := bd hrun
  refine g_cVi [.int x2] C (dat dt_X6_insideAreOne 27 rfl) ml_6_45 (w_X6_nationOf a0 x2 h v6 Ha0 q7) Ha0.1 (rb0 Ha0) rfl rfl cat0 (by decide) c00 ?_
  refine g_istore_n (lv' := [(0, .ref a0), (1, .int v6), (2, .int x2)]) C (dat dt_X6_insideAreOne 28 rfl) (by decide) rfl ?_
  refine g_iinc (v := (x2 + (1 : Int32))) (lv' := [(0, .ref a0), (1, .int v6), (2, .int (x2 + (1 : Int32)))]) C (dat dt_X6_insideAreOne 29 rfl) 2 rfl (congrArg (fun z => x2 + z) ic_1) (by decide) rfl ?_
  refine g_goto 4 C (dat dt_X6_insideAreOne 30 rfl) (by decide) ?_
  cases hrun
  exact Ks _ rfl
def b_X6_insideAreOne_4 (a0 : Nat)  (x1 : Int32) (x2 : Int32) (h : Hp) : Option ((Int32 × Int32) ⊕ (Unit ⊕ Unit)) :=
  if (fI h a0 0) ≤ x2 then
  some (.inr (.inl ()))
  else
  (inb x2 6).bind fun j2 =>
  if (aI h (a0 + 3) j2) = (-1 : Int32) then
  some (.inl (x1, (x2 + (1 : Int32))))
  else
  if x1 = (-1 : Int32) then
  j_X6_insideAreOne_41_4 a0 x2 h
  else
  (f_X6_nationOf a0 x2 h).bind fun v8 =>
  if v8 = x1 then
  j_X6_insideAreOne_41_4 a0 x2 h
  else
  some (.inr (.inr <| id ()))
set_option maxRecDepth 20000 in
theorem wb_X6_insideAreOne_4 {X : Xt} (C : Cx X cn_6 prog_8_method_12_code 3 (some .boolean) 2 0 0) (a0 : Nat) (Ha0 : IsRoom a0)  (x1 : Int32) (x2 : Int32) (h : Hp) (q : (Int32 × Int32) ⊕ (Unit ⊕ Unit)) (hrun : b_X6_insideAreOne_4 a0  x1 x2 h = some q) (Ks : ∀ s, q = .inl s → kp_X6_insideAreOne_4 a0  h X s) (Ke : ∀ e, q = .inr e → ke_X6_insideAreOne_4 a0  h X e) : kp_X6_insideAreOne_4 a0  h X (x1, x2) := by
  show G X h 0 0 4 [(0, .ref a0), (1, .int x1), (2, .int x2)] []
  unfold b_X6_insideAreOne_4 at hrun
  refine g_iload_n C (dat dt_X6_insideAreOne 4 rfl) 2 rfl ?_
  refine g_aload_n C (dat dt_X6_insideAreOne 5 rfl) 0 rfl ?_
  refine g_getI C (dat dt_X6_insideAreOne 6 rfl) fl_6_33 Ha0.1 rfl (rb0 Ha0) ?_
  refine g_ic_ge 53 C (dat dt_X6_insideAreOne 7 rfl) (by decide) (fun c1 => ?_) (fun c1 => ?_)
  · rw [if_pos c1] at hrun
    refine g_sub [] (lv' := []) rfl ?_
    cases hrun
    exact Ke _ rfl
  · rw [if_neg c1] at hrun
    refine g_aload_n C (dat dt_X6_insideAreOne 8 rfl) 0 rfl ?_
    refine g_getR C (dat dt_X6_insideAreOne 9 rfl) fl_6_18 Ha0.1 rfl (rb0 Ha0) ?_
    refine g_iload_n C (dat dt_X6_insideAreOne 10 rfl) 2 rfl ?_
    obtain ⟨j2, q3, hrun⟩ := bd hrun
    refine g_iald C (dat dt_X6_insideAreOne 11 rfl) Ha0.2.2.2.1 (rb3 Ha0) q3 ?_
    refine g_iconst C (dat dt_X6_insideAreOne 12 rfl) ic_m1 ?_
    refine g_ic_ne 25 C (dat dt_X6_insideAreOne 13 rfl) (by decide) (fun c4 => ?_) (fun c4 => ?_)
    · rw [if_neg c4] at hrun
      refine g_iload_n C (dat dt_X6_insideAreOne 15 rfl) 1 rfl ?_
      refine g_iconst C (dat dt_X6_insideAreOne 16 rfl) ic_m1 ?_
      refine g_ic_eq 41 C (dat dt_X6_insideAreOne 17 rfl) (by decide) (fun c5 => ?_) (fun c5 => ?_)
      · rw [if_pos c5] at hrun
        refine g_sub [0, 2] (lv' := [(0, .ref a0), (2, .int x2)]) rfl ?_
        exact wj_X6_insideAreOne_41_4 C a0 Ha0  x2 h _ hrun Ks Ke
      · rw [if_neg c5] at hrun
        refine g_aload_n C (dat dt_X6_insideAreOne 18 rfl) 0 rfl ?_
        refine g_iload_n C (dat dt_X6_insideAreOne 19 rfl) 2 rfl ?_
        obtain ⟨v8, q9, hrun⟩ := bd hrun
        refine g_cVi [.int x2] C (dat dt_X6_insideAreOne 20 rfl) ml_6_45 (w_X6_nationOf a0 x2 h v8 Ha0 q9) Ha0.1 (rb0 Ha0) rfl rfl cat0 (by decide) c00 ?_
        refine g_iload_n C (dat dt_X6_insideAreOne 21 rfl) 1 rfl ?_
        refine g_ic_eq 41 C (dat dt_X6_insideAreOne 22 rfl) (by decide) (fun c10 => ?_) (fun c10 => ?_)
        · rw [if_pos c10] at hrun
          refine g_sub [0, 2] (lv' := [(0, .ref a0), (2, .int x2)]) rfl ?_
          exact wj_X6_insideAreOne_41_4 C a0 Ha0  x2 h _ hrun Ks Ke
        · rw [if_neg c10] at hrun
          refine g_sub [] (lv' := []) rfl ?_
          cases hrun
          exact Ke _ rfl
    · rw [if_pos c4] at hrun
      refine g_goto 47 C (dat dt_X6_insideAreOne 14 rfl) (by decide) ?_
      refine g_iinc (v := (x2 + (1 : Int32))) (lv' := [(0, .ref a0), (1, .int x1), (2, .int (x2 + (1 : Int32)))]) C (dat dt_X6_insideAreOne 29 rfl) 2 rfl (congrArg (fun z => x2 + z) ic_1) (by decide) rfl ?_
      refine g_goto 4 C (dat dt_X6_insideAreOne 30 rfl) (by decide) ?_
      cases hrun
      exact Ks _ rfl
def f_X6_insideAreOne (a0 : Nat) (h : Hp) : Option Bool :=
  (lp (fun s => b_X6_insideAreOne_4 a0  s.1 s.2 h) FU ((-1 : Int32), (0 : Int32))).bind fun e11 =>
  sc e11 (fun e13 =>
  some true) (fun e14 =>
  some false)
set_option maxRecDepth 20000 in
theorem w_X6_insideAreOne (a0 : Nat) (h : Hp) (q : Bool) (Ha0 : IsRoom a0) (hrun : f_X6_insideAreOne a0 h = some q) : MetA ⟨"SteamNations$Room", "insideAreOne", "()Z"⟩ prog_8_method_12_code 3 (some .boolean) 2 0 0 [.ref a0] h (some (.int (b2i q))) h := by
  refine metA_of rfl (Nat.le_of_ble_eq_true rfl) (fun X C K => ?_)
  have C : Cx X cn_6 prog_8_method_12_code 3 (some .boolean) 2 0 0 := C
  show G X h 0 0 0 [(0, .ref a0)] []
  unfold f_X6_insideAreOne at hrun
  refine g_iconst C (dat dt_X6_insideAreOne 0 rfl) ic_m1 ?_
  refine g_istore_n (lv' := [(0, .ref a0), (1, .int (-1 : Int32))]) C (dat dt_X6_insideAreOne 1 rfl) (by decide) rfl ?_
  refine g_iconst C (dat dt_X6_insideAreOne 2 rfl) ic_0 ?_
  refine g_istore_n (lv' := [(0, .ref a0), (1, .int (-1 : Int32)), (2, .int (0 : Int32))]) C (dat dt_X6_insideAreOne 3 rfl) (by decide) rfl ?_
  obtain ⟨e11, q12, hrun⟩ := bd hrun
  refine lp_ind (P := fun s => kp_X6_insideAreOne_4 a0  h X s) (K := fun e => ke_X6_insideAreOne_4 a0  h X e) (fun s q hb Ks Ke => wb_X6_insideAreOne_4 C a0 Ha0  s.1 s.2 h q hb Ks Ke) FU ((-1 : Int32), (0 : Int32)) e11 q12 ?_
  rcases e11 with e13 | e14
  · rw [sc_l] at hrun
    show G X h 0 0 53 [] []
    refine g_iconst C (dat dt_X6_insideAreOne 31 rfl) ic_1 ?_
    cases hrun
    exact g_zret C K (by decide) (dat dt_X6_insideAreOne 32 rfl)
  · rw [sc_r] at hrun
    show G X h 0 0 39 [] []
    refine g_iconst C (dat dt_X6_insideAreOne 23 rfl) ic_0 ?_
    cases hrun
    exact g_zret C K (by decide) (dat dt_X6_insideAreOne 24 rfl)
/-! java/lang/Math.min(II)I -/
def dl_J9_min_7cf53 : List (Nat × Instr × Nat) := [(0, .iload_n 0, 1), (1, .iload_n 1, 1), (2, .if_icmp .gt 7, 3), (5, .iload_n 0, 1), (6, .goto 4, 3), (9, .iload_n 1, 1), (10, .ireturn, 1)]
set_option maxRecDepth 20000 in
theorem dt_J9_min_7cf53 : ∀ q ∈ dl_J9_min_7cf53, decode prog_16_method_69_code q.1 = .ok q.2 := by decide +kernel
def f_J9_min_7cf53 (x0 : Int32) (x1 : Int32) : Option Int32 :=
  if x1 < x0 then
  some x1
  else
  some x0
set_option maxRecDepth 20000 in
theorem w_J9_min_7cf53 (x0 : Int32) (x1 : Int32) (h : Hp) (q : Int32)  (hrun : f_J9_min_7cf53 x0 x1 = some q) : MetA ⟨"java/lang/Math", "min", "(II)I"⟩ prog_16_method_69_code 2 (some .int) 1 0 0 [.int x0, .int x1] h (some (.int q)) h := by
  refine metA_of rfl (Nat.le_of_ble_eq_true rfl) (fun X C K => ?_)
  have C : Cx X "java/lang/Math" prog_16_method_69_code 2 (some .int) 1 0 0 := C
  show G X h 0 0 0 [(0, .int x0), (1, .int x1)] []
  unfold f_J9_min_7cf53 at hrun
  refine g_iload_n C (dat dt_J9_min_7cf53 0 rfl) 0 rfl ?_
  refine g_iload_n C (dat dt_J9_min_7cf53 1 rfl) 1 rfl ?_
  refine g_ic_gt 9 C (dat dt_J9_min_7cf53 2 rfl) (by decide) (fun c1 => ?_) (fun c1 => ?_)
  · rw [if_pos c1] at hrun
    refine g_iload_n C (dat dt_J9_min_7cf53 5 rfl) 1 rfl ?_
    cases hrun
    exact g_iret C K (dat dt_J9_min_7cf53 6 rfl)
  · rw [if_neg c1] at hrun
    refine g_iload_n C (dat dt_J9_min_7cf53 3 rfl) 0 rfl ?_
    refine g_goto 10 C (dat dt_J9_min_7cf53 4 rfl) (by decide) ?_
    cases hrun
    exact g_iret C K (dat dt_J9_min_7cf53 6 rfl)
/-! SteamNations$Room.inCommon(II)I -/
def dl_X6_inCommon : List (Nat × Instr × Nat) := [(0, .iconst 0, 1), (1, .istore_n 3, 1), (2, .iconst 0, 1), (3, .istore 4, 2), (5, .iload 4, 2), (7, .iconst 3, 1), (8, .if_icmp .ge 37, 3), (11, .iload_n 3, 1), (12, .aload_n 0, 1), (13, .getfield 9, 3), (16, .iload_n 1, 1), (17, .iconst 3, 1), (18, .imul, 1), (19, .iload 4, 2), (21, .iadd, 1), (22, .iaload, 1), (23, .aload_n 0, 1), (24, .getfield 9, 3), (27, .iload_n 2, 1), (28, .iconst 3, 1), (29, .imul, 1), (30, .iload 4, 2), (32, .iadd, 1), (33, .iaload, 1), (34, .invokestatic 53, 3), (37, .iadd, 1), (38, .istore_n 3, 1), (39, .iinc 4 1, 3), (42, .goto (-37), 3), (45, .iload_n 3, 1), (46, .ireturn, 1)]
set_option maxRecDepth 20000 in
theorem dt_X6_inCommon : ∀ q ∈ dl_X6_inCommon, decode prog_8_method_14_code q.1 = .ok q.2 := by decide +kernel
def kp_X6_inCommon_5 (a0 : Nat) (x1 : Int32) (x2 : Int32) (h : Hp) (X : Xt) (s : (Int32 × Int32)) : Prop := G X h 0 0 5 [(0, .ref a0), (1, .int x1), (2, .int x2), (3, .int s.1), (4, .int s.2)] []
def ke_X6_inCommon_5 (a0 : Nat) (x1 : Int32) (x2 : Int32) (h : Hp) (X : Xt) (e : Int32) : Prop := G X h 0 0 45 [(3, .int e)] []
def b_X6_inCommon_5 (a0 : Nat) (x1 : Int32) (x2 : Int32) (x3 : Int32) (x4 : Int32) (h : Hp) : Option ((Int32 × Int32) ⊕ Int32) :=
  if (3 : Int32) ≤ x4 then
  some (.inr ( x3))
  else
  (inb ((x1 * (3 : Int32)) + x4) 18).bind fun j2 =>
  (inb ((x2 * (3 : Int32)) + x4) 18).bind fun j4 =>
  (f_J9_min_7cf53 (aI h (a0 + 1) j2) (aI h (a0 + 1) j4)).bind fun v6 =>
  some (.inl ((x3 + v6), (x4 + (1 : Int32))))
set_option maxRecDepth 20000 in
theorem wb_X6_inCommon_5 {X : Xt} (C : Cx X cn_6 prog_8_method_14_code 5 (some .int) 2 0 0) (a0 : Nat) (Ha0 : IsRoom a0) (x1 : Int32) (x2 : Int32) (x3 : Int32) (x4 : Int32) (h : Hp) (q : (Int32 × Int32) ⊕ Int32) (hrun : b_X6_inCommon_5 a0 x1 x2 x3 x4 h = some q) (Ks : ∀ s, q = .inl s → kp_X6_inCommon_5 a0 x1 x2 h X s) (Ke : ∀ e, q = .inr e → ke_X6_inCommon_5 a0 x1 x2 h X e) : kp_X6_inCommon_5 a0 x1 x2 h X (x3, x4) := by
  show G X h 0 0 5 [(0, .ref a0), (1, .int x1), (2, .int x2), (3, .int x3), (4, .int x4)] []
  unfold b_X6_inCommon_5 at hrun
  refine g_iload C (dat dt_X6_inCommon 4 rfl) 4 rfl ?_
  refine g_iconst C (dat dt_X6_inCommon 5 rfl) ic_3 ?_
  refine g_ic_ge 45 C (dat dt_X6_inCommon 6 rfl) (by decide) (fun c1 => ?_) (fun c1 => ?_)
  · rw [if_pos c1] at hrun
    refine g_sub [3] (lv' := [(3, .int x3)]) rfl ?_
    cases hrun
    exact Ke _ rfl
  · rw [if_neg c1] at hrun
    refine g_iload_n C (dat dt_X6_inCommon 7 rfl) 3 rfl ?_
    refine g_aload_n C (dat dt_X6_inCommon 8 rfl) 0 rfl ?_
    refine g_getR C (dat dt_X6_inCommon 9 rfl) fl_6_9 Ha0.1 rfl (rb0 Ha0) ?_
    refine g_iload_n C (dat dt_X6_inCommon 10 rfl) 1 rfl ?_
    refine g_iconst C (dat dt_X6_inCommon 11 rfl) ic_3 ?_
    refine g_imul C (dat dt_X6_inCommon 12 rfl) ?_
    refine g_iload C (dat dt_X6_inCommon 13 rfl) 4 rfl ?_
    refine g_iadd C (dat dt_X6_inCommon 14 rfl) ?_
    obtain ⟨j2, q3, hrun⟩ := bd hrun
    refine g_iald C (dat dt_X6_inCommon 15 rfl) Ha0.2.1 (rb1 Ha0) q3 ?_
    refine g_aload_n C (dat dt_X6_inCommon 16 rfl) 0 rfl ?_
    refine g_getR C (dat dt_X6_inCommon 17 rfl) fl_6_9 Ha0.1 rfl (rb0 Ha0) ?_
    refine g_iload_n C (dat dt_X6_inCommon 18 rfl) 2 rfl ?_
    refine g_iconst C (dat dt_X6_inCommon 19 rfl) ic_3 ?_
    refine g_imul C (dat dt_X6_inCommon 20 rfl) ?_
    refine g_iload C (dat dt_X6_inCommon 21 rfl) 4 rfl ?_
    refine g_iadd C (dat dt_X6_inCommon 22 rfl) ?_
    obtain ⟨j4, q5, hrun⟩ := bd hrun
    refine g_iald C (dat dt_X6_inCommon 23 rfl) Ha0.2.1 (rb1 Ha0) q5 ?_
    obtain ⟨v6, q7, hrun⟩ := bd hrun
    refine g_cSi [.int (aI h (a0 + 1) j2), .int (aI h (a0 + 1) j4)] C (dat dt_X6_inCommon 24 rfl) ml_6_53 (w_J9_min_7cf53 (aI h (a0 + 1) j2) (aI h (a0 + 1) j4) h v6  q7) rfl rfl (Nat.le_of_ble_eq_true rfl) (by decide) c00 ?_
    refine g_iadd C (dat dt_X6_inCommon 25 rfl) ?_
    refine g_istore_n (lv' := [(0, .ref a0), (1, .int x1), (2, .int x2), (3, .int (x3 + v6)), (4, .int x4)]) C (dat dt_X6_inCommon 26 rfl) (by decide) rfl ?_
    refine g_iinc (v := (x4 + (1 : Int32))) (lv' := [(0, .ref a0), (1, .int x1), (2, .int x2), (3, .int (x3 + v6)), (4, .int (x4 + (1 : Int32)))]) C (dat dt_X6_inCommon 27 rfl) 4 rfl (congrArg (fun z => x4 + z) ic_1) (by decide) rfl ?_
    refine g_goto 5 C (dat dt_X6_inCommon 28 rfl) (by decide) ?_
    cases hrun
    exact Ks _ rfl
def f_X6_inCommon (a0 : Nat) (x1 : Int32) (x2 : Int32) (h : Hp) : Option Int32 :=
  (lp (fun s => b_X6_inCommon_5 a0 x1 x2 s.1 s.2 h) FU ((0 : Int32), (0 : Int32))).bind fun e8 =>
  some e8
set_option maxRecDepth 20000 in
theorem w_X6_inCommon (a0 : Nat) (x1 : Int32) (x2 : Int32) (h : Hp) (q : Int32) (Ha0 : IsRoom a0) (hrun : f_X6_inCommon a0 x1 x2 h = some q) : MetA ⟨"SteamNations$Room", "inCommon", "(II)I"⟩ prog_8_method_14_code 5 (some .int) 2 0 0 [.ref a0, .int x1, .int x2] h (some (.int q)) h := by
  refine metA_of rfl (Nat.le_of_ble_eq_true rfl) (fun X C K => ?_)
  have C : Cx X cn_6 prog_8_method_14_code 5 (some .int) 2 0 0 := C
  show G X h 0 0 0 [(0, .ref a0), (1, .int x1), (2, .int x2)] []
  unfold f_X6_inCommon at hrun
  refine g_iconst C (dat dt_X6_inCommon 0 rfl) ic_0 ?_
  refine g_istore_n (lv' := [(0, .ref a0), (1, .int x1), (2, .int x2), (3, .int (0 : Int32))]) C (dat dt_X6_inCommon 1 rfl) (by decide) rfl ?_
  refine g_iconst C (dat dt_X6_inCommon 2 rfl) ic_0 ?_
  refine g_istore (lv' := [(0, .ref a0), (1, .int x1), (2, .int x2), (3, .int (0 : Int32)), (4, .int (0 : Int32))]) C (dat dt_X6_inCommon 3 rfl) (by decide) rfl ?_
  obtain ⟨e8, q9, hrun⟩ := bd hrun
  refine lp_ind (P := fun s => kp_X6_inCommon_5 a0 x1 x2 h X s) (K := fun e => ke_X6_inCommon_5 a0 x1 x2 h X e) (fun s q hb Ks Ke => wb_X6_inCommon_5 C a0 Ha0 x1 x2 s.1 s.2 h q hb Ks Ke) FU ((0 : Int32), (0 : Int32)) e8 q9 ?_
  show G X h 0 0 45 [(3, .int e8)] []
  refine g_iload_n C (dat dt_X6_inCommon 29 rfl) 0 rfl ?_
  cases hrun
  exact g_iret C K (dat dt_X6_inCommon 30 rfl)
/-! SteamNations$Room.isTreaty(II)Z -/
def dl_X6_isTreaty : List (Nat × Instr × Nat) := [(0, .iconst 0, 1), (1, .istore_n 3, 1), (2, .iload_n 3, 1), (3, .aload_n 0, 1), (4, .getfield 33, 3), (7, .if_icmp .ge 73, 3), (10, .iload_n 3, 1), (11, .iconst 1, 1), (12, .iadd, 1), (13, .istore 4, 2), (15, .iload 4, 2), (17, .aload_n 0, 1), (18, .getfield 33, 3), (21, .if_icmp .ge 53, 3), (24, .iload_n 1, 1), (25, .iload_n 3, 1), (26, .ishr, 1), (27, .iconst 1, 1), (28, .iand, 1), (29, .iconst 1, 1), (30, .if_icmp .ne 17, 3), (33, .iload_n 1, 1), (34, .iload 4, 2), (36, .ishr, 1), (37, .iconst 1, 1), (38, .iand, 1), (39, .iconst 1, 1), (40, .if_icmp .ne 7, 3), (43, .iconst 1, 1), (44, .goto 4, 3), (47, .iconst 0, 1), (48, .istore 5, 2), (50, .iload 5, 2), (52, .ifCond .eq 16, 3), (55, .aload_n 0, 1), (56, .iload_n 3, 1), (57, .iload 4, 2), (59, .invokevirtual 49, 3), (62, .iload_n 2, 1), (63, .if_icmp .ge 5, 3), (66, .iconst 0, 1), (67, .ireturn, 1), (68, .iinc 4 1, 3), (71, .goto (-56), 3), (74, .iinc 3 1, 3), (77, .goto (-75), 3), (80, .iconst 1, 1), (81, .ireturn, 1)]
set_option maxRecDepth 20000 in
theorem dt_X6_isTreaty : ∀ q ∈ dl_X6_isTreaty, decode prog_8_method_13_code q.1 = .ok q.2 := by decide +kernel
def kp_X6_isTreaty_2 (a0 : Nat) (x1 : Int32) (x2 : Int32) (h : Hp) (X : Xt) (s : Int32) : Prop := G X h 0 0 2 [(0, .ref a0), (1, .int x1), (2, .int x2), (3, .int s)] []
def ke_X6_isTreaty_2 (a0 : Nat) (x1 : Int32) (x2 : Int32) (h : Hp) (X : Xt) (e : (Unit ⊕ Unit)) : Prop := match e with
  | .inl e => G X h 0 0 80 [] []
  | .inr (e) => G X h 0 0 66 [] []
def kp_X6_isTreaty_15_2 (a0 : Nat) (x1 : Int32) (x2 : Int32) (x3 : Int32) (h : Hp) (X : Xt) (s : Int32) : Prop := G X h 0 0 15 [(0, .ref a0), (1, .int x1), (2, .int x2), (3, .int x3), (4, .int s)] []
def ke_X6_isTreaty_15_2 (a0 : Nat) (x1 : Int32) (x2 : Int32) (x3 : Int32) (h : Hp) (X : Xt) (e : (Unit ⊕ Unit)) : Prop := match e with
  | .inl e => G X h 0 0 74 [(0, .ref a0), (1, .int x1), (2, .int x2), (3, .int x3)] []
  | .inr (e) => G X h 0 0 66 [] []
def j_X6_isTreaty_48_15 (a0 : Nat) (x1 : Int32) (x2 : Int32) (x3 : Int32) (x4 : Int32) (s0 : Int32) (h : Hp) : Option (Int32 ⊕ (Unit ⊕ Unit)) :=
  if s0 = 0 then
  some (.inl (x4 + (1 : Int32)))
  else
  (f_X6_inCommon a0 x3 x4 h).bind fun v5 =>
  if x2 ≤ v5 then
  some (.inl (x4 + (1 : Int32)))
  else
  some (.inr (.inr <| id ()))
set_option maxRecDepth 20000 in
theorem wj_X6_isTreaty_48_15 {X : Xt} (C : Cx X cn_6 prog_8_method_13_code 6 (some .boolean) 3 0 0) (a0 : Nat) (Ha0 : IsRoom a0)  (x1 : Int32) (x2 : Int32) (x3 : Int32) (x4 : Int32) (s0 : Int32) (h : Hp) (q : Int32 ⊕ (Unit ⊕ Unit)) (hrun : j_X6_isTreaty_48_15 a0 x1 x2 x3 x4 s0 h = some q) (Ks : ∀ s, q = .inl s → kp_X6_isTreaty_15_2 a0 x1 x2 x3 h X s) (Ke : ∀ e, q = .inr e → ke_X6_isTreaty_15_2 a0 x1 x2 x3 h X e) : G X h 0 0 48 [(0, .ref a0), (1, .int x1), (2, .int x2), (3, .int x3), (4, .int x4)] [.int s0] := by
  unfold j_X6_isTreaty_48_15 at hrun
  refine g_istore (lv' := [(0, .ref a0), (1, .int x1), (2, .int x2), (3, .int x3), (4, .int x4), (5, .int s0)]) C (dat dt_X6_isTreaty 31 rfl) (by decide) rfl ?_
  refine g_iload C (dat dt_X6_isTreaty 32 rfl) 5 rfl ?_
  refine g_if_eq 68 C (dat dt_X6_isTreaty 33 rfl) (by decide) (fun c4 => ?_) (fun c4 => ?_)
  · rw [if_pos c4] at hrun
    refine g_iinc (v := (x4 + (1 : Int32))) (lv' := [(0, .ref a0), (1, .int x1), (2, .int x2), (3, .int x3), (4, .int (x4 + (1 : Int32))), (5, .int s0)]) C (dat dt_X6_isTreaty 42 rfl) 4 rfl (congrArg (fun z => x4 + z) ic_1) (by decide) rfl ?_
    refine g_goto 15 C (dat dt_X6_isTreaty 43 rfl) (by decide) ?_
    refine g_sub [0, 1, 2, 3, 4] (lv' := [(0, .ref a0), (1, .int x1), (2, .int x2), (3, .int x3), (4, .int (x4 + (1 : Int32)))]) rfl ?_
    cases hrun
    exact Ks _ rfl
  · rw [if_neg c4] at hrun
    refine g_aload_n C (dat dt_X6_isTreaty 34 rfl) 0 rfl ?_
    refine g_iload_n C (dat dt_X6_isTreaty 35 rfl) 3 rfl ?_
    refine g_iload C (dat dt_X6_isTreaty 36 rfl) 4 rfl ?_
    obtain ⟨v5, q6, hrun⟩ := bd hrun
    refine g_cVi [.int x3, .int x4] C (dat dt_X6_isTreaty 37 rfl) ml_6_49 (w_X6_inCommon a0 x3 x4 h v5 Ha0 q6) Ha0.1 (rb0 Ha0) rfl rfl cat0 (by decide) c00 ?_
    refine g_iload_n C (dat dt_X6_isTreaty 38 rfl) 2 rfl ?_
    refine g_ic_ge 68 C (dat dt_X6_isTreaty 39 rfl) (by decide) (fun c7 => ?_) (fun c7 => ?_)
    · rw [if_pos c7] at hrun
      refine g_iinc (v := (x4 + (1 : Int32))) (lv' := [(0, .ref a0), (1, .int x1), (2, .int x2), (3, .int x3), (4, .int (x4 + (1 : Int32))), (5, .int s0)]) C (dat dt_X6_isTreaty 42 rfl) 4 rfl (congrArg (fun z => x4 + z) ic_1) (by decide) rfl ?_
      refine g_goto 15 C (dat dt_X6_isTreaty 43 rfl) (by decide) ?_
      refine g_sub [0, 1, 2, 3, 4] (lv' := [(0, .ref a0), (1, .int x1), (2, .int x2), (3, .int x3), (4, .int (x4 + (1 : Int32)))]) rfl ?_
      cases hrun
      exact Ks _ rfl
    · rw [if_neg c7] at hrun
      refine g_sub [] (lv' := []) rfl ?_
      cases hrun
      exact Ke _ rfl
def j_X6_isTreaty_47_15 (a0 : Nat) (x1 : Int32) (x2 : Int32) (x3 : Int32) (x4 : Int32) (h : Hp) : Option (Int32 ⊕ (Unit ⊕ Unit)) :=
  j_X6_isTreaty_48_15 a0 x1 x2 x3 x4 (0 : Int32) h
set_option maxRecDepth 20000 in
theorem wj_X6_isTreaty_47_15 {X : Xt} (C : Cx X cn_6 prog_8_method_13_code 6 (some .boolean) 3 0 0) (a0 : Nat) (Ha0 : IsRoom a0)  (x1 : Int32) (x2 : Int32) (x3 : Int32) (x4 : Int32) (h : Hp) (q : Int32 ⊕ (Unit ⊕ Unit)) (hrun : j_X6_isTreaty_47_15 a0 x1 x2 x3 x4 h = some q) (Ks : ∀ s, q = .inl s → kp_X6_isTreaty_15_2 a0 x1 x2 x3 h X s) (Ke : ∀ e, q = .inr e → ke_X6_isTreaty_15_2 a0 x1 x2 x3 h X e) : G X h 0 0 47 [(0, .ref a0), (1, .int x1), (2, .int x2), (3, .int x3), (4, .int x4)] [] := by
  unfold j_X6_isTreaty_47_15 at hrun
  refine g_iconst C (dat dt_X6_isTreaty 30 rfl) ic_0 ?_
  exact wj_X6_isTreaty_48_15 C a0 Ha0  x1 x2 x3 x4 (0 : Int32) h _ hrun Ks Ke
def b_X6_isTreaty_15_2 (a0 : Nat) (x1 : Int32) (x2 : Int32) (x3 : Int32) (x4 : Int32) (h : Hp) : Option (Int32 ⊕ (Unit ⊕ Unit)) :=
  if (fI h a0 0) ≤ x4 then
  some (.inr (.inl ()))
  else
  if ((x1 >>> (x3 &&& 31)) &&& (1 : Int32)) = (1 : Int32) then
  if ((x1 >>> (x4 &&& 31)) &&& (1 : Int32)) = (1 : Int32) then
  j_X6_isTreaty_48_15 a0 x1 x2 x3 x4 (1 : Int32) h
  else
  j_X6_isTreaty_47_15 a0 x1 x2 x3 x4 h
  else
  j_X6_isTreaty_47_15 a0 x1 x2 x3 x4 h
set_option maxRecDepth 20000 in
theorem wb_X6_isTreaty_15_2 {X : Xt} (C : Cx X cn_6 prog_8_method_13_code 6 (some .boolean) 3 0 0) (a0 : Nat) (Ha0 : IsRoom a0) (x1 : Int32) (x2 : Int32) (x3 : Int32) (x4 : Int32) (h : Hp) (q : Int32 ⊕ (Unit ⊕ Unit)) (hrun : b_X6_isTreaty_15_2 a0 x1 x2 x3 x4 h = some q) (Ks : ∀ s, q = .inl s → kp_X6_isTreaty_15_2 a0 x1 x2 x3 h X s) (Ke : ∀ e, q = .inr e → ke_X6_isTreaty_15_2 a0 x1 x2 x3 h X e) : kp_X6_isTreaty_15_2 a0 x1 x2 x3 h X x4 := by
  show G X h 0 0 15 [(0, .ref a0), (1, .int x1), (2, .int x2), (3, .int x3), (4, .int x4)] []
  unfold b_X6_isTreaty_15_2 at hrun
  refine g_iload C (dat dt_X6_isTreaty 10 rfl) 4 rfl ?_
  refine g_aload_n C (dat dt_X6_isTreaty 11 rfl) 0 rfl ?_
  refine g_getI C (dat dt_X6_isTreaty 12 rfl) fl_6_33 Ha0.1 rfl (rb0 Ha0) ?_
  refine g_ic_ge 74 C (dat dt_X6_isTreaty 13 rfl) (by decide) (fun c2 => ?_) (fun c2 => ?_)
  · rw [if_pos c2] at hrun
    refine g_sub [0, 1, 2, 3] (lv' := [(0, .ref a0), (1, .int x1), (2, .int x2), (3, .int x3)]) rfl ?_
    cases hrun
    exact Ke _ rfl
  · rw [if_neg c2] at hrun
    refine g_iload_n C (dat dt_X6_isTreaty 14 rfl) 1 rfl ?_
    refine g_iload_n C (dat dt_X6_isTreaty 15 rfl) 3 rfl ?_
    refine g_ishr C (dat dt_X6_isTreaty 16 rfl) ?_
    refine g_iconst C (dat dt_X6_isTreaty 17 rfl) ic_1 ?_
    refine g_iand C (dat dt_X6_isTreaty 18 rfl) ?_
    refine g_iconst C (dat dt_X6_isTreaty 19 rfl) ic_1 ?_
    refine g_ic_ne 47 C (dat dt_X6_isTreaty 20 rfl) (by decide) (fun c3 => ?_) (fun c3 => ?_)
    · rw [if_neg c3] at hrun
      exact wj_X6_isTreaty_47_15 C a0 Ha0  x1 x2 x3 x4 h _ hrun Ks Ke
    · rw [if_pos c3] at hrun
      refine g_iload_n C (dat dt_X6_isTreaty 21 rfl) 1 rfl ?_
      refine g_iload C (dat dt_X6_isTreaty 22 rfl) 4 rfl ?_
      refine g_ishr C (dat dt_X6_isTreaty 23 rfl) ?_
      refine g_iconst C (dat dt_X6_isTreaty 24 rfl) ic_1 ?_
      refine g_iand C (dat dt_X6_isTreaty 25 rfl) ?_
      refine g_iconst C (dat dt_X6_isTreaty 26 rfl) ic_1 ?_
      refine g_ic_ne 47 C (dat dt_X6_isTreaty 27 rfl) (by decide) (fun c8 => ?_) (fun c8 => ?_)
      · rw [if_neg c8] at hrun
        exact wj_X6_isTreaty_47_15 C a0 Ha0  x1 x2 x3 x4 h _ hrun Ks Ke
      · rw [if_pos c8] at hrun
        refine g_iconst C (dat dt_X6_isTreaty 28 rfl) ic_1 ?_
        refine g_goto 48 C (dat dt_X6_isTreaty 29 rfl) (by decide) ?_
        exact wj_X6_isTreaty_48_15 C a0 Ha0  x1 x2 x3 x4 (1 : Int32) h _ hrun Ks Ke
def b_X6_isTreaty_2 (a0 : Nat) (x1 : Int32) (x2 : Int32) (x3 : Int32) (h : Hp) : Option (Int32 ⊕ (Unit ⊕ Unit)) :=
  if (fI h a0 0) ≤ x3 then
  some (.inr (.inl ()))
  else
  (lp (fun s => b_X6_isTreaty_15_2 a0 x1 x2 x3 s h) FU (x3 + (1 : Int32))).bind fun e9 =>
  sc e9 (fun e11 =>
  some (.inl (x3 + (1 : Int32)))) (fun e12 =>
  some (.inr (.inr <| id ())))
set_option maxRecDepth 20000 in
theorem wb_X6_isTreaty_2 {X : Xt} (C : Cx X cn_6 prog_8_method_13_code 6 (some .boolean) 3 0 0) (a0 : Nat) (Ha0 : IsRoom a0) (x1 : Int32) (x2 : Int32) (x3 : Int32) (h : Hp) (q : Int32 ⊕ (Unit ⊕ Unit)) (hrun : b_X6_isTreaty_2 a0 x1 x2 x3 h = some q) (Ks : ∀ s, q = .inl s → kp_X6_isTreaty_2 a0 x1 x2 h X s) (Ke : ∀ e, q = .inr e → ke_X6_isTreaty_2 a0 x1 x2 h X e) : kp_X6_isTreaty_2 a0 x1 x2 h X x3 := by
  show G X h 0 0 2 [(0, .ref a0), (1, .int x1), (2, .int x2), (3, .int x3)] []
  unfold b_X6_isTreaty_2 at hrun
  refine g_iload_n C (dat dt_X6_isTreaty 2 rfl) 3 rfl ?_
  refine g_aload_n C (dat dt_X6_isTreaty 3 rfl) 0 rfl ?_
  refine g_getI C (dat dt_X6_isTreaty 4 rfl) fl_6_33 Ha0.1 rfl (rb0 Ha0) ?_
  refine g_ic_ge 80 C (dat dt_X6_isTreaty 5 rfl) (by decide) (fun c1 => ?_) (fun c1 => ?_)
  · rw [if_pos c1] at hrun
    refine g_sub [] (lv' := []) rfl ?_
    cases hrun
    exact Ke _ rfl
  · rw [if_neg c1] at hrun
    refine g_iload_n C (dat dt_X6_isTreaty 6 rfl) 3 rfl ?_
    refine g_iconst C (dat dt_X6_isTreaty 7 rfl) ic_1 ?_
    refine g_iadd C (dat dt_X6_isTreaty 8 rfl) ?_
    refine g_istore (lv' := [(0, .ref a0), (1, .int x1), (2, .int x2), (3, .int x3), (4, .int (x3 + (1 : Int32)))]) C (dat dt_X6_isTreaty 9 rfl) (by decide) rfl ?_
    obtain ⟨e9, q10, hrun⟩ := bd hrun
    refine lp_ind (P := fun s => kp_X6_isTreaty_15_2 a0 x1 x2 x3 h X s) (K := fun e => ke_X6_isTreaty_15_2 a0 x1 x2 x3 h X e) (fun s q hb Ks Ke => wb_X6_isTreaty_15_2 C a0 Ha0 x1 x2 x3 s h q hb Ks Ke) FU (x3 + (1 : Int32)) e9 q10 ?_
    rcases e9 with e11 | e12
    · rw [sc_l] at hrun
      show G X h 0 0 74 [(0, .ref a0), (1, .int x1), (2, .int x2), (3, .int x3)] []
      refine g_iinc (v := (x3 + (1 : Int32))) (lv' := [(0, .ref a0), (1, .int x1), (2, .int x2), (3, .int (x3 + (1 : Int32)))]) C (dat dt_X6_isTreaty 44 rfl) 3 rfl (congrArg (fun z => x3 + z) ic_1) (by decide) rfl ?_
      refine g_goto 2 C (dat dt_X6_isTreaty 45 rfl) (by decide) ?_
      cases hrun
      exact Ks _ rfl
    · rw [sc_r] at hrun
      show G X h 0 0 66 [] []
      cases hrun
      exact Ke _ rfl
def f_X6_isTreaty (a0 : Nat) (x1 : Int32) (x2 : Int32) (h : Hp) : Option Bool :=
  (lp (fun s => b_X6_isTreaty_2 a0 x1 x2 s h) FU (0 : Int32)).bind fun e13 =>
  sc e13 (fun e15 =>
  some true) (fun e16 =>
  some false)
set_option maxRecDepth 20000 in
theorem w_X6_isTreaty (a0 : Nat) (x1 : Int32) (x2 : Int32) (h : Hp) (q : Bool) (Ha0 : IsRoom a0) (hrun : f_X6_isTreaty a0 x1 x2 h = some q) : MetA ⟨"SteamNations$Room", "isTreaty", "(II)Z"⟩ prog_8_method_13_code 6 (some .boolean) 3 0 0 [.ref a0, .int x1, .int x2] h (some (.int (b2i q))) h := by
  refine metA_of rfl (Nat.le_of_ble_eq_true rfl) (fun X C K => ?_)
  have C : Cx X cn_6 prog_8_method_13_code 6 (some .boolean) 3 0 0 := C
  show G X h 0 0 0 [(0, .ref a0), (1, .int x1), (2, .int x2)] []
  unfold f_X6_isTreaty at hrun
  refine g_iconst C (dat dt_X6_isTreaty 0 rfl) ic_0 ?_
  refine g_istore_n (lv' := [(0, .ref a0), (1, .int x1), (2, .int x2), (3, .int (0 : Int32))]) C (dat dt_X6_isTreaty 1 rfl) (by decide) rfl ?_
  obtain ⟨e13, q14, hrun⟩ := bd hrun
  refine lp_ind (P := fun s => kp_X6_isTreaty_2 a0 x1 x2 h X s) (K := fun e => ke_X6_isTreaty_2 a0 x1 x2 h X e) (fun s q hb Ks Ke => wb_X6_isTreaty_2 C a0 Ha0 x1 x2 s h q hb Ks Ke) FU (0 : Int32) e13 q14 ?_
  rcases e13 with e15 | e16
  · rw [sc_l] at hrun
    show G X h 0 0 80 [] []
    refine g_iconst C (dat dt_X6_isTreaty 46 rfl) ic_1 ?_
    cases hrun
    exact g_zret C K (by decide) (dat dt_X6_isTreaty 47 rfl)
  · rw [sc_r] at hrun
    show G X h 0 0 66 [] []
    refine g_iconst C (dat dt_X6_isTreaty 40 rfl) ic_0 ?_
    cases hrun
    exact g_zret C K (by decide) (dat dt_X6_isTreaty 41 rfl)
end
