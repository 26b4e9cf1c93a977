section
-- ===== PART A: goes FIRST, ahead of the names: the tables' words, and 'selects' of the private methods out of them =====
/-- a private method of a class that the tables say can be made, by its rows of tables_1 -/
def lw_okq (q : MethodName × Nat) : Prop := (q.1.cls ≠ "java/lang/invoke/MethodHandle" ∧ q.1.cls ≠ "java/lang/invoke/VarHandle") ∧ Cond.instantiable q.1.cls q.2 ∈ tables_1 ∧ Cond.privateMethod q.1 ∈ tables_1 ∧ Cond.instanceMethod q.1 ∈ tables_1
theorem lw_p0 : lw_okq (⟨"SteamNations", "answer", "(I)I"⟩, 20) := ⟨⟨by decide +kernel, by decide +kernel⟩, List.mem_of_getElem? (i := 22) (by decide +kernel), List.mem_of_getElem? (i := 397) (by decide +kernel), List.mem_of_getElem? (i := 398) (by decide +kernel)⟩
theorem lw_p1 : lw_okq (⟨"SteamNations", "answerChanged", "(I)I"⟩, 20) := ⟨⟨by decide +kernel, by decide +kernel⟩, List.mem_of_getElem? (i := 22) (by decide +kernel), List.mem_of_getElem? (i := 409) (by decide +kernel), List.mem_of_getElem? (i := 410) (by decide +kernel)⟩
theorem lw_p2 : lw_okq (⟨"SteamNations$Steam", "sayWords", "(LSteamNations$Room;II)V"⟩, 3) := ⟨⟨by decide +kernel, by decide +kernel⟩, List.mem_of_getElem? (i := 214) (by decide +kernel), List.mem_of_getElem? (i := 454) (by decide +kernel), List.mem_of_getElem? (i := 455) (by decide +kernel)⟩
theorem lw_p3 : lw_okq (⟨"SteamNations$Machine", "wordAt", "(I)I"⟩, 2) := ⟨⟨by decide +kernel, by decide +kernel⟩, List.mem_of_getElem? (i := 161) (by decide +kernel), List.mem_of_getElem? (i := 475) (by decide +kernel), List.mem_of_getElem? (i := 476) (by decide +kernel)⟩
theorem lw_p4 : lw_okq (⟨"SteamNations", "putFour", "(I)V"⟩, 20) := ⟨⟨by decide +kernel, by decide +kernel⟩, List.mem_of_getElem? (i := 22) (by decide +kernel), List.mem_of_getElem? (i := 522) (by decide +kernel), List.mem_of_getElem? (i := 523) (by decide +kernel)⟩
theorem lw_p5 : lw_okq (⟨"SteamNations", "sitterFromTape", "(I)Z"⟩, 20) := ⟨⟨by decide +kernel, by decide +kernel⟩, List.mem_of_getElem? (i := 22) (by decide +kernel), List.mem_of_getElem? (i := 534) (by decide +kernel), List.mem_of_getElem? (i := 535) (by decide +kernel)⟩
theorem lw_p6 : lw_okq (⟨"SteamNations", "takeTape", "()I"⟩, 20) := ⟨⟨by decide +kernel, by decide +kernel⟩, List.mem_of_getElem? (i := 22) (by decide +kernel), List.mem_of_getElem? (i := 546) (by decide +kernel), List.mem_of_getElem? (i := 547) (by decide +kernel)⟩
theorem lw_p7 : lw_okq (⟨"SteamNations$Reader", "cut", "([II)V"⟩, 11) := ⟨⟨by decide +kernel, by decide +kernel⟩, List.mem_of_getElem? (i := 32) (by decide +kernel), List.mem_of_getElem? (i := 555) (by decide +kernel), List.mem_of_getElem? (i := 556) (by decide +kernel)⟩
theorem lw_p8 : lw_okq (⟨"SteamNations$Reader", "goOn", "()V"⟩, 11) := ⟨⟨by decide +kernel, by decide +kernel⟩, List.mem_of_getElem? (i := 32) (by decide +kernel), List.mem_of_getElem? (i := 620) (by decide +kernel), List.mem_of_getElem? (i := 621) (by decide +kernel)⟩
theorem lw_p9 : lw_okq (⟨"SteamNations$Reader", "readOrder", "(I)Z"⟩, 11) := ⟨⟨by decide +kernel, by decide +kernel⟩, List.mem_of_getElem? (i := 32) (by decide +kernel), List.mem_of_getElem? (i := 624) (by decide +kernel), List.mem_of_getElem? (i := 625) (by decide +kernel)⟩
theorem lw_p10 : lw_okq (⟨"SteamNations$Reader", "wrong", "()Z"⟩, 11) := ⟨⟨by decide +kernel, by decide +kernel⟩, List.mem_of_getElem? (i := 32) (by decide +kernel), List.mem_of_getElem? (i := 628) (by decide +kernel), List.mem_of_getElem? (i := 629) (by decide +kernel)⟩
theorem lw_p11 : lw_okq (⟨"SteamNations$Reader", "mark", "(III)V"⟩, 11) := ⟨⟨by decide +kernel, by decide +kernel⟩, List.mem_of_getElem? (i := 32) (by decide +kernel), List.mem_of_getElem? (i := 632) (by decide +kernel), List.mem_of_getElem? (i := 633) (by decide +kernel)⟩
theorem lw_p12 : lw_okq (⟨"SteamNations$Reader", "readSum", "(I)Z"⟩, 11) := ⟨⟨by decide +kernel, by decide +kernel⟩, List.mem_of_getElem? (i := 32) (by decide +kernel), List.mem_of_getElem? (i := 636) (by decide +kernel), List.mem_of_getElem? (i := 637) (by decide +kernel)⟩
theorem lw_p13 : lw_okq (⟨"SteamNations$Reader", "readTerm", "(I)Z"⟩, 11) := ⟨⟨by decide +kernel, by decide +kernel⟩, List.mem_of_getElem? (i := 32) (by decide +kernel), List.mem_of_getElem? (i := 640) (by decide +kernel), List.mem_of_getElem? (i := 641) (by decide +kernel)⟩
theorem lw_p14 : lw_okq (⟨"SteamNations$Reader", "readPart", "(I)Z"⟩, 11) := ⟨⟨by decide +kernel, by decide +kernel⟩, List.mem_of_getElem? (i := 32) (by decide +kernel), List.mem_of_getElem? (i := 644) (by decide +kernel), List.mem_of_getElem? (i := 645) (by decide +kernel)⟩
theorem lw_p15 : lw_okq (⟨"SteamNations$Reader", "isSign", "(C)Z"⟩, 11) := ⟨⟨by decide +kernel, by decide +kernel⟩, List.mem_of_getElem? (i := 32) (by decide +kernel), List.mem_of_getElem? (i := 648) (by decide +kernel), List.mem_of_getElem? (i := 649) (by decide +kernel)⟩
def lw_privs_1 : List (MethodName × Nat) := [(⟨"SteamNations", "answer", "(I)I"⟩, 20), (⟨"SteamNations", "answerChanged", "(I)I"⟩, 20), (⟨"SteamNations$Steam", "sayWords", "(LSteamNations$Room;II)V"⟩, 3), (⟨"SteamNations$Machine", "wordAt", "(I)I"⟩, 2), (⟨"SteamNations", "putFour", "(I)V"⟩, 20), (⟨"SteamNations", "sitterFromTape", "(I)Z"⟩, 20), (⟨"SteamNations", "takeTape", "()I"⟩, 20), (⟨"SteamNations$Reader", "cut", "([II)V"⟩, 11), (⟨"SteamNations$Reader", "goOn", "()V"⟩, 11), (⟨"SteamNations$Reader", "readOrder", "(I)Z"⟩, 11), (⟨"SteamNations$Reader", "wrong", "()Z"⟩, 11), (⟨"SteamNations$Reader", "mark", "(III)V"⟩, 11), (⟨"SteamNations$Reader", "readSum", "(I)Z"⟩, 11), (⟨"SteamNations$Reader", "readTerm", "(I)Z"⟩, 11), (⟨"SteamNations$Reader", "readPart", "(I)Z"⟩, 11), (⟨"SteamNations$Reader", "isSign", "(C)Z"⟩, 11)]
theorem lw_r1 : ∀ q ∈ lw_privs_1, lw_okq q := List.forall_mem_cons.mpr ⟨lw_p0, List.forall_mem_cons.mpr ⟨lw_p1, List.forall_mem_cons.mpr ⟨lw_p2, List.forall_mem_cons.mpr ⟨lw_p3, List.forall_mem_cons.mpr ⟨lw_p4, List.forall_mem_cons.mpr ⟨lw_p5, List.forall_mem_cons.mpr ⟨lw_p6, List.forall_mem_cons.mpr ⟨lw_p7, List.forall_mem_cons.mpr ⟨lw_p8, List.forall_mem_cons.mpr ⟨lw_p9, List.forall_mem_cons.mpr ⟨lw_p10, List.forall_mem_cons.mpr ⟨lw_p11, List.forall_mem_cons.mpr ⟨lw_p12, List.forall_mem_cons.mpr ⟨lw_p13, List.forall_mem_cons.mpr ⟨lw_p14, List.forall_mem_cons.mpr ⟨lw_p15, fun _ h => absurd h List.not_mem_nil⟩⟩⟩⟩⟩⟩⟩⟩⟩⟩⟩⟩⟩⟩⟩⟩
theorem lw_p16 : lw_okq (⟨"SteamNations$Reader", "canOpen", "(I)Z"⟩, 11) := ⟨⟨by decide +kernel, by decide +kernel⟩, List.mem_of_getElem? (i := 32) (by decide +kernel), List.mem_of_getElem? (i := 652) (by decide +kernel), List.mem_of_getElem? (i := 653) (by decide +kernel)⟩
theorem lw_p17 : lw_okq (⟨"SteamNations$Reader", "takeSign", "(C)Z"⟩, 11) := ⟨⟨by decide +kernel, by decide +kernel⟩, List.mem_of_getElem? (i := 32) (by decide +kernel), List.mem_of_getElem? (i := 656) (by decide +kernel), List.mem_of_getElem? (i := 657) (by decide +kernel)⟩
theorem lw_p18 : lw_okq (⟨"SteamNations$Reader", "numberHere", "()I"⟩, 11) := ⟨⟨by decide +kernel, by decide +kernel⟩, List.mem_of_getElem? (i := 32) (by decide +kernel), List.mem_of_getElem? (i := 660) (by decide +kernel), List.mem_of_getElem? (i := 661) (by decide +kernel)⟩
theorem lw_p19 : lw_okq (⟨"SteamNations$Reader", "readOrdersWord", "()Z"⟩, 11) := ⟨⟨by decide +kernel, by decide +kernel⟩, List.mem_of_getElem? (i := 32) (by decide +kernel), List.mem_of_getElem? (i := 664) (by decide +kernel), List.mem_of_getElem? (i := 665) (by decide +kernel)⟩
theorem lw_p20 : lw_okq (⟨"SteamNations$Reader", "put", "(II)I"⟩, 11) := ⟨⟨by decide +kernel, by decide +kernel⟩, List.mem_of_getElem? (i := 32) (by decide +kernel), List.mem_of_getElem? (i := 668) (by decide +kernel), List.mem_of_getElem? (i := 669) (by decide +kernel)⟩
theorem lw_p21 : lw_okq (⟨"SteamNations$Reader", "readLawWord", "()Z"⟩, 11) := ⟨⟨by decide +kernel, by decide +kernel⟩, List.mem_of_getElem? (i := 32) (by decide +kernel), List.mem_of_getElem? (i := 672) (by decide +kernel), List.mem_of_getElem? (i := 673) (by decide +kernel)⟩
theorem lw_p22 : lw_okq (⟨"SteamNations$Reader", "takeIf", "(I)Z"⟩, 11) := ⟨⟨by decide +kernel, by decide +kernel⟩, List.mem_of_getElem? (i := 32) (by decide +kernel), List.mem_of_getElem? (i := 676) (by decide +kernel), List.mem_of_getElem? (i := 677) (by decide +kernel)⟩
theorem lw_p23 : lw_okq (⟨"SteamNations$Reader", "readTimes", "(I)Z"⟩, 11) := ⟨⟨by decide +kernel, by decide +kernel⟩, List.mem_of_getElem? (i := 32) (by decide +kernel), List.mem_of_getElem? (i := 680) (by decide +kernel), List.mem_of_getElem? (i := 681) (by decide +kernel)⟩
theorem lw_p24 : lw_okq (⟨"SteamNations$Reader", "readRule", "(I)Z"⟩, 11) := ⟨⟨by decide +kernel, by decide +kernel⟩, List.mem_of_getElem? (i := 32) (by decide +kernel), List.mem_of_getElem? (i := 684) (by decide +kernel), List.mem_of_getElem? (i := 685) (by decide +kernel)⟩
theorem lw_p25 : lw_okq (⟨"SteamNations$Reader", "readIf", "(I)Z"⟩, 11) := ⟨⟨by decide +kernel, by decide +kernel⟩, List.mem_of_getElem? (i := 32) (by decide +kernel), List.mem_of_getElem? (i := 688) (by decide +kernel), List.mem_of_getElem? (i := 689) (by decide +kernel)⟩
theorem lw_p26 : lw_okq (⟨"SteamNations$Reader", "readTest", "(I)Z"⟩, 11) := ⟨⟨by decide +kernel, by decide +kernel⟩, List.mem_of_getElem? (i := 32) (by decide +kernel), List.mem_of_getElem? (i := 692) (by decide +kernel), List.mem_of_getElem? (i := 693) (by decide +kernel)⟩
theorem lw_p27 : lw_okq (⟨"SteamNations$Reader", "readBoth", "(I)Z"⟩, 11) := ⟨⟨by decide +kernel, by decide +kernel⟩, List.mem_of_getElem? (i := 32) (by decide +kernel), List.mem_of_getElem? (i := 696) (by decide +kernel), List.mem_of_getElem? (i := 697) (by decide +kernel)⟩
theorem lw_p28 : lw_okq (⟨"SteamNations$Reader", "readPlain", "(I)Z"⟩, 11) := ⟨⟨by decide +kernel, by decide +kernel⟩, List.mem_of_getElem? (i := 32) (by decide +kernel), List.mem_of_getElem? (i := 700) (by decide +kernel), List.mem_of_getElem? (i := 701) (by decide +kernel)⟩
theorem lw_p29 : lw_okq (⟨"SteamNations$Reader", "readComparison", "(I)Z"⟩, 11) := ⟨⟨by decide +kernel, by decide +kernel⟩, List.mem_of_getElem? (i := 32) (by decide +kernel), List.mem_of_getElem? (i := 704) (by decide +kernel), List.mem_of_getElem? (i := 705) (by decide +kernel)⟩
theorem lw_p30 : lw_okq (⟨"SteamNations$Reader", "land", "(I)V"⟩, 11) := ⟨⟨by decide +kernel, by decide +kernel⟩, List.mem_of_getElem? (i := 32) (by decide +kernel), List.mem_of_getElem? (i := 708) (by decide +kernel), List.mem_of_getElem? (i := 709) (by decide +kernel)⟩
theorem lw_p31 : lw_okq (⟨"SteamNations$Errands", "sayWords", "(LSteamNations$Room;)V"⟩, 7) := ⟨⟨by decide +kernel, by decide +kernel⟩, List.mem_of_getElem? (i := 248) (by decide +kernel), List.mem_of_getElem? (i := 749) (by decide +kernel), List.mem_of_getElem? (i := 750) (by decide +kernel)⟩
def lw_privs_2 : List (MethodName × Nat) := [(⟨"SteamNations$Reader", "canOpen", "(I)Z"⟩, 11), (⟨"SteamNations$Reader", "takeSign", "(C)Z"⟩, 11), (⟨"SteamNations$Reader", "numberHere", "()I"⟩, 11), (⟨"SteamNations$Reader", "readOrdersWord", "()Z"⟩, 11), (⟨"SteamNations$Reader", "put", "(II)I"⟩, 11), (⟨"SteamNations$Reader", "readLawWord", "()Z"⟩, 11), (⟨"SteamNations$Reader", "takeIf", "(I)Z"⟩, 11), (⟨"SteamNations$Reader", "readTimes", "(I)Z"⟩, 11), (⟨"SteamNations$Reader", "readRule", "(I)Z"⟩, 11), (⟨"SteamNations$Reader", "readIf", "(I)Z"⟩, 11), (⟨"SteamNations$Reader", "readTest", "(I)Z"⟩, 11), (⟨"SteamNations$Reader", "readBoth", "(I)Z"⟩, 11), (⟨"SteamNations$Reader", "readPlain", "(I)Z"⟩, 11), (⟨"SteamNations$Reader", "readComparison", "(I)Z"⟩, 11), (⟨"SteamNations$Reader", "land", "(I)V"⟩, 11), (⟨"SteamNations$Errands", "sayWords", "(LSteamNations$Room;)V"⟩, 7)]
theorem lw_r2 : ∀ q ∈ lw_privs_2, lw_okq q := List.forall_mem_cons.mpr ⟨lw_p16, List.forall_mem_cons.mpr ⟨lw_p17, List.forall_mem_cons.mpr ⟨lw_p18, List.forall_mem_cons.mpr ⟨lw_p19, List.forall_mem_cons.mpr ⟨lw_p20, List.forall_mem_cons.mpr ⟨lw_p21, List.forall_mem_cons.mpr ⟨lw_p22, List.forall_mem_cons.mpr ⟨lw_p23, List.forall_mem_cons.mpr ⟨lw_p24, List.forall_mem_cons.mpr ⟨lw_p25, List.forall_mem_cons.mpr ⟨lw_p26, List.forall_mem_cons.mpr ⟨lw_p27, List.forall_mem_cons.mpr ⟨lw_p28, List.forall_mem_cons.mpr ⟨lw_p29, List.forall_mem_cons.mpr ⟨lw_p30, List.forall_mem_cons.mpr ⟨lw_p31, fun _ h => absurd h List.not_mem_nil⟩⟩⟩⟩⟩⟩⟩⟩⟩⟩⟩⟩⟩⟩⟩⟩
theorem lw_p32 : lw_okq (⟨"SteamNations$Errands", "canMove", "(LSteamNations$Text;I)Z"⟩, 7) := ⟨⟨by decide +kernel, by decide +kernel⟩, List.mem_of_getElem? (i := 248) (by decide +kernel), List.mem_of_getElem? (i := 769) (by decide +kernel), List.mem_of_getElem? (i := 770) (by decide +kernel)⟩
theorem lw_p33 : lw_okq (⟨"SteamNations$Steam", "seeWho", "(LSteamNations$Room;)V"⟩, 3) := ⟨⟨by decide +kernel, by decide +kernel⟩, List.mem_of_getElem? (i := 214) (by decide +kernel), List.mem_of_getElem? (i := 807) (by decide +kernel), List.mem_of_getElem? (i := 808) (by decide +kernel)⟩
theorem lw_p34 : lw_okq (⟨"SteamNations$Steam", "whoBeside", "(II)I"⟩, 3) := ⟨⟨by decide +kernel, by decide +kernel⟩, List.mem_of_getElem? (i := 214) (by decide +kernel), List.mem_of_getElem? (i := 812) (by decide +kernel), List.mem_of_getElem? (i := 813) (by decide +kernel)⟩
theorem lw_p35 : lw_okq (⟨"SteamNations", "playOnPaper", "(LSteamNations$Text;I)V"⟩, 20) := ⟨⟨by decide +kernel, by decide +kernel⟩, List.mem_of_getElem? (i := 22) (by decide +kernel), List.mem_of_getElem? (i := 867) (by decide +kernel), List.mem_of_getElem? (i := 868) (by decide +kernel)⟩
theorem lw_p36 : lw_okq (⟨"SteamNations$Seatings", "listInside", "(LSteamNations$Room;)V"⟩, 12) := ⟨⟨by decide +kernel, by decide +kernel⟩, List.mem_of_getElem? (i := 281) (by decide +kernel), List.mem_of_getElem? (i := 896) (by decide +kernel), List.mem_of_getElem? (i := 897) (by decide +kernel)⟩
theorem lw_p37 : lw_okq (⟨"SteamNations$Seatings", "playSeating", "(LSteamNations$Room;LSteamNations$Text;II)V"⟩, 12) := ⟨⟨by decide +kernel, by decide +kernel⟩, List.mem_of_getElem? (i := 281) (by decide +kernel), List.mem_of_getElem? (i := 902) (by decide +kernel), List.mem_of_getElem? (i := 903) (by decide +kernel)⟩
theorem lw_p38 : lw_okq (⟨"SteamNations$Seatings", "toNextOrder", "()Z"⟩, 12) := ⟨⟨by decide +kernel, by decide +kernel⟩, List.mem_of_getElem? (i := 281) (by decide +kernel), List.mem_of_getElem? (i := 912) (by decide +kernel), List.mem_of_getElem? (i := 913) (by decide +kernel)⟩
theorem lw_p39 : lw_okq (⟨"SteamNations$Seatings", "exchangePlaces", "(II)V"⟩, 12) := ⟨⟨by decide +kernel, by decide +kernel⟩, List.mem_of_getElem? (i := 281) (by decide +kernel), List.mem_of_getElem? (i := 916) (by decide +kernel), List.mem_of_getElem? (i := 917) (by decide +kernel)⟩
theorem lw_p40 : lw_okq (⟨"SteamNations$Seatings", "nationIn", "(III)I"⟩, 12) := ⟨⟨by decide +kernel, by decide +kernel⟩, List.mem_of_getElem? (i := 281) (by decide +kernel), List.mem_of_getElem? (i := 928) (by decide +kernel), List.mem_of_getElem? (i := 929) (by decide +kernel)⟩
theorem lw_p41 : lw_okq (⟨"SteamNations$Seatings", "isSeating", "(I)Z"⟩, 12) := ⟨⟨by decide +kernel, by decide +kernel⟩, List.mem_of_getElem? (i := 281) (by decide +kernel), List.mem_of_getElem? (i := 938) (by decide +kernel), List.mem_of_getElem? (i := 939) (by decide +kernel)⟩
theorem lw_p42 : lw_okq (⟨"SteamNations$Seatings", "reachFrom", "(II)I"⟩, 12) := ⟨⟨by decide +kernel, by decide +kernel⟩, List.mem_of_getElem? (i := 281) (by decide +kernel), List.mem_of_getElem? (i := 954) (by decide +kernel), List.mem_of_getElem? (i := 955) (by decide +kernel)⟩
theorem lw_p43 : lw_okq (⟨"SteamNations$Seatings", "canExchange", "(III)Z"⟩, 12) := ⟨⟨by decide +kernel, by decide +kernel⟩, List.mem_of_getElem? (i := 281) (by decide +kernel), List.mem_of_getElem? (i := 958) (by decide +kernel), List.mem_of_getElem? (i := 959) (by decide +kernel)⟩
theorem lw_p44 : lw_okq (⟨"SteamNations$Seatings", "rankOf", "(I)I"⟩, 12) := ⟨⟨by decide +kernel, by decide +kernel⟩, List.mem_of_getElem? (i := 281) (by decide +kernel), List.mem_of_getElem? (i := 966) (by decide +kernel), List.mem_of_getElem? (i := 967) (by decide +kernel)⟩
theorem lw_p45 : lw_okq (⟨"SteamNations$Seatings", "farOf", "(I)I"⟩, 12) := ⟨⟨by decide +kernel, by decide +kernel⟩, List.mem_of_getElem? (i := 281) (by decide +kernel), List.mem_of_getElem? (i := 974) (by decide +kernel), List.mem_of_getElem? (i := 975) (by decide +kernel)⟩
theorem lw_p46 : lw_okq (⟨"SteamNations$Seatings", "fits", "(LSteamNations$House;I)Z"⟩, 12) := ⟨⟨by decide +kernel, by decide +kernel⟩, List.mem_of_getElem? (i := 281) (by decide +kernel), List.mem_of_getElem? (i := 1011) (by decide +kernel), List.mem_of_getElem? (i := 1012) (by decide +kernel)⟩
theorem lw_p47 : lw_okq (⟨"SteamNations$Room", "inCommon", "(II)I"⟩, 5) := ⟨⟨by decide +kernel, by decide +kernel⟩, List.mem_of_getElem? (i := 92) (by decide +kernel), List.mem_of_getElem? (i := 1053) (by decide +kernel), List.mem_of_getElem? (i := 1054) (by decide +kernel)⟩
def lw_privs_3 : List (MethodName × Nat) := [(⟨"SteamNations$Errands", "canMove", "(LSteamNations$Text;I)Z"⟩, 7), (⟨"SteamNations$Steam", "seeWho", "(LSteamNations$Room;)V"⟩, 3), (⟨"SteamNations$Steam", "whoBeside", "(II)I"⟩, 3), (⟨"SteamNations", "playOnPaper", "(LSteamNations$Text;I)V"⟩, 20), (⟨"SteamNations$Seatings", "listInside", "(LSteamNations$Room;)V"⟩, 12), (⟨"SteamNations$Seatings", "playSeating", "(LSteamNations$Room;LSteamNations$Text;II)V"⟩, 12), (⟨"SteamNations$Seatings", "toNextOrder", "()Z"⟩, 12), (⟨"SteamNations$Seatings", "exchangePlaces", "(II)V"⟩, 12), (⟨"SteamNations$Seatings", "nationIn", "(III)I"⟩, 12), (⟨"SteamNations$Seatings", "isSeating", "(I)Z"⟩, 12), (⟨"SteamNations$Seatings", "reachFrom", "(II)I"⟩, 12), (⟨"SteamNations$Seatings", "canExchange", "(III)Z"⟩, 12), (⟨"SteamNations$Seatings", "rankOf", "(I)I"⟩, 12), (⟨"SteamNations$Seatings", "farOf", "(I)I"⟩, 12), (⟨"SteamNations$Seatings", "fits", "(LSteamNations$House;I)Z"⟩, 12), (⟨"SteamNations$Room", "inCommon", "(II)I"⟩, 5)]
theorem lw_r3 : ∀ q ∈ lw_privs_3, lw_okq q := List.forall_mem_cons.mpr ⟨lw_p32, List.forall_mem_cons.mpr ⟨lw_p33, List.forall_mem_cons.mpr ⟨lw_p34, List.forall_mem_cons.mpr ⟨lw_p35, List.forall_mem_cons.mpr ⟨lw_p36, List.forall_mem_cons.mpr ⟨lw_p37, List.forall_mem_cons.mpr ⟨lw_p38, List.forall_mem_cons.mpr ⟨lw_p39, List.forall_mem_cons.mpr ⟨lw_p40, List.forall_mem_cons.mpr ⟨lw_p41, List.forall_mem_cons.mpr ⟨lw_p42, List.forall_mem_cons.mpr ⟨lw_p43, List.forall_mem_cons.mpr ⟨lw_p44, List.forall_mem_cons.mpr ⟨lw_p45, List.forall_mem_cons.mpr ⟨lw_p46, List.forall_mem_cons.mpr ⟨lw_p47, fun _ h => absurd h List.not_mem_nil⟩⟩⟩⟩⟩⟩⟩⟩⟩⟩⟩⟩⟩⟩⟩⟩
theorem lw_p48 : lw_okq (⟨"SteamNations", "spreadDrops", "(LSteamNations$Room;)V"⟩, 20) := ⟨⟨by decide +kernel, by decide +kernel⟩, List.mem_of_getElem? (i := 22) (by decide +kernel), List.mem_of_getElem? (i := 1064) (by decide +kernel), List.mem_of_getElem? (i := 1065) (by decide +kernel)⟩
theorem lw_p49 : lw_okq (⟨"SteamNations", "moveByDraw", "(III)V"⟩, 20) := ⟨⟨by decide +kernel, by decide +kernel⟩, List.mem_of_getElem? (i := 22) (by decide +kernel), List.mem_of_getElem? (i := 1093) (by decide +kernel), List.mem_of_getElem? (i := 1094) (by decide +kernel)⟩
theorem lw_p50 : lw_okq (⟨"SteamNationsModel", "refuses", "(I)I"⟩, 56) := ⟨⟨by decide +kernel, by decide +kernel⟩, List.mem_of_getElem? (i := 1128) (by decide +kernel), List.mem_of_getElem? (i := 1310) (by decide +kernel), List.mem_of_getElem? (i := 1311) (by decide +kernel)⟩
theorem lw_p51 : lw_okq (⟨"SteamNationsModel", "good", "(I)I"⟩, 56) := ⟨⟨by decide +kernel, by decide +kernel⟩, List.mem_of_getElem? (i := 1128) (by decide +kernel), List.mem_of_getElem? (i := 1314) (by decide +kernel), List.mem_of_getElem? (i := 1315) (by decide +kernel)⟩
theorem lw_p52 : lw_okq (⟨"SteamNationsModel", "settled", "(I)I"⟩, 56) := ⟨⟨by decide +kernel, by decide +kernel⟩, List.mem_of_getElem? (i := 1128) (by decide +kernel), List.mem_of_getElem? (i := 1322) (by decide +kernel), List.mem_of_getElem? (i := 1323) (by decide +kernel)⟩
theorem lw_p53 : lw_okq (⟨"SteamNationsModel", "many", "()I"⟩, 56) := ⟨⟨by decide +kernel, by decide +kernel⟩, List.mem_of_getElem? (i := 1128) (by decide +kernel), List.mem_of_getElem? (i := 1336) (by decide +kernel), List.mem_of_getElem? (i := 1337) (by decide +kernel)⟩
theorem lw_p54 : lw_okq (⟨"SteamNationsModel", "adds", "(IIII)V"⟩, 56) := ⟨⟨by decide +kernel, by decide +kernel⟩, List.mem_of_getElem? (i := 1128) (by decide +kernel), List.mem_of_getElem? (i := 1340) (by decide +kernel), List.mem_of_getElem? (i := 1341) (by decide +kernel)⟩
theorem lw_p55 : lw_okq (⟨"SteamNationsModel", "isSitter", "(I)Z"⟩, 56) := ⟨⟨by decide +kernel, by decide +kernel⟩, List.mem_of_getElem? (i := 1128) (by decide +kernel), List.mem_of_getElem? (i := 1348) (by decide +kernel), List.mem_of_getElem? (i := 1349) (by decide +kernel)⟩
theorem lw_p56 : lw_okq (⟨"SteamNationsModel", "partsOf", "(II)I"⟩, 56) := ⟨⟨by decide +kernel, by decide +kernel⟩, List.mem_of_getElem? (i := 1128) (by decide +kernel), List.mem_of_getElem? (i := 1352) (by decide +kernel), List.mem_of_getElem? (i := 1353) (by decide +kernel)⟩
theorem lw_p57 : lw_okq (⟨"SteamNationsModel", "seatOf", "(I)I"⟩, 56) := ⟨⟨by decide +kernel, by decide +kernel⟩, List.mem_of_getElem? (i := 1128) (by decide +kernel), List.mem_of_getElem? (i := 1356) (by decide +kernel), List.mem_of_getElem? (i := 1357) (by decide +kernel)⟩
theorem lw_p58 : lw_okq (⟨"SteamNationsModel", "nationOf", "(I)I"⟩, 56) := ⟨⟨by decide +kernel, by decide +kernel⟩, List.mem_of_getElem? (i := 1128) (by decide +kernel), List.mem_of_getElem? (i := 1360) (by decide +kernel), List.mem_of_getElem? (i := 1361) (by decide +kernel)⟩
theorem lw_p59 : lw_okq (⟨"SteamNationsModel", "isInside", "(I)Z"⟩, 56) := ⟨⟨by decide +kernel, by decide +kernel⟩, List.mem_of_getElem? (i := 1128) (by decide +kernel), List.mem_of_getElem? (i := 1364) (by decide +kernel), List.mem_of_getElem? (i := 1365) (by decide +kernel)⟩
theorem lw_p60 : lw_okq (⟨"SteamNationsModel", "tells", "(III)I"⟩, 56) := ⟨⟨by decide +kernel, by decide +kernel⟩, List.mem_of_getElem? (i := 1128) (by decide +kernel), List.mem_of_getElem? (i := 1368) (by decide +kernel), List.mem_of_getElem? (i := 1369) (by decide +kernel)⟩
theorem lw_p61 : lw_okq (⟨"SteamNationsModel", "setsAsked", "(II)V"⟩, 56) := ⟨⟨by decide +kernel, by decide +kernel⟩, List.mem_of_getElem? (i := 1128) (by decide +kernel), List.mem_of_getElem? (i := 1372) (by decide +kernel), List.mem_of_getElem? (i := 1373) (by decide +kernel)⟩
theorem lw_p62 : lw_okq (⟨"SteamNationsModel", "codeAt", "(I)I"⟩, 56) := ⟨⟨by decide +kernel, by decide +kernel⟩, List.mem_of_getElem? (i := 1128) (by decide +kernel), List.mem_of_getElem? (i := 1377) (by decide +kernel), List.mem_of_getElem? (i := 1378) (by decide +kernel)⟩
theorem lw_p63 : lw_okq (⟨"SteamNationsModel", "sumOf", "(Z)J"⟩, 56) := ⟨⟨by decide +kernel, by decide +kernel⟩, List.mem_of_getElem? (i := 1128) (by decide +kernel), List.mem_of_getElem? (i := 1381) (by decide +kernel), List.mem_of_getElem? (i := 1382) (by decide +kernel)⟩
def lw_privs_4 : List (MethodName × Nat) := [(⟨"SteamNations", "spreadDrops", "(LSteamNations$Room;)V"⟩, 20), (⟨"SteamNations", "moveByDraw", "(III)V"⟩, 20), (⟨"SteamNationsModel", "refuses", "(I)I"⟩, 56), (⟨"SteamNationsModel", "good", "(I)I"⟩, 56), (⟨"SteamNationsModel", "settled", "(I)I"⟩, 56), (⟨"SteamNationsModel", "many", "()I"⟩, 56), (⟨"SteamNationsModel", "adds", "(IIII)V"⟩, 56), (⟨"SteamNationsModel", "isSitter", "(I)Z"⟩, 56), (⟨"SteamNationsModel", "partsOf", "(II)I"⟩, 56), (⟨"SteamNationsModel", "seatOf", "(I)I"⟩, 56), (⟨"SteamNationsModel", "nationOf", "(I)I"⟩, 56), (⟨"SteamNationsModel", "isInside", "(I)Z"⟩, 56), (⟨"SteamNationsModel", "tells", "(III)I"⟩, 56), (⟨"SteamNationsModel", "setsAsked", "(II)V"⟩, 56), (⟨"SteamNationsModel", "codeAt", "(I)I"⟩, 56), (⟨"SteamNationsModel", "sumOf", "(Z)J"⟩, 56)]
theorem lw_r4 : ∀ q ∈ lw_privs_4, lw_okq q := List.forall_mem_cons.mpr ⟨lw_p48, List.forall_mem_cons.mpr ⟨lw_p49, List.forall_mem_cons.mpr ⟨lw_p50, List.forall_mem_cons.mpr ⟨lw_p51, List.forall_mem_cons.mpr ⟨lw_p52, List.forall_mem_cons.mpr ⟨lw_p53, List.forall_mem_cons.mpr ⟨lw_p54, List.forall_mem_cons.mpr ⟨lw_p55, List.forall_mem_cons.mpr ⟨lw_p56, List.forall_mem_cons.mpr ⟨lw_p57, List.forall_mem_cons.mpr ⟨lw_p58, List.forall_mem_cons.mpr ⟨lw_p59, List.forall_mem_cons.mpr ⟨lw_p60, List.forall_mem_cons.mpr ⟨lw_p61, List.forall_mem_cons.mpr ⟨lw_p62, List.forall_mem_cons.mpr ⟨lw_p63, fun _ h => absurd h List.not_mem_nil⟩⟩⟩⟩⟩⟩⟩⟩⟩⟩⟩⟩⟩⟩⟩⟩
theorem lw_p64 : lw_okq (⟨"SteamNationsModel", "termOf", "(Z)J"⟩, 56) := ⟨⟨by decide +kernel, by decide +kernel⟩, List.mem_of_getElem? (i := 1128) (by decide +kernel), List.mem_of_getElem? (i := 1385) (by decide +kernel), List.mem_of_getElem? (i := 1386) (by decide +kernel)⟩
theorem lw_p65 : lw_okq (⟨"SteamNationsModel", "partOf", "(Z)J"⟩, 56) := ⟨⟨by decide +kernel, by decide +kernel⟩, List.mem_of_getElem? (i := 1128) (by decide +kernel), List.mem_of_getElem? (i := 1389) (by decide +kernel), List.mem_of_getElem? (i := 1390) (by decide +kernel)⟩
theorem lw_p66 : lw_okq (⟨"SteamNationsModel", "passes0", "(I)Z"⟩, 56) := ⟨⟨by decide +kernel, by decide +kernel⟩, List.mem_of_getElem? (i := 1128) (by decide +kernel), List.mem_of_getElem? (i := 1396) (by decide +kernel), List.mem_of_getElem? (i := 1397) (by decide +kernel)⟩
theorem lw_p67 : lw_okq (⟨"SteamNationsModel", "orderValue", "(II)I"⟩, 56) := ⟨⟨by decide +kernel, by decide +kernel⟩, List.mem_of_getElem? (i := 1128) (by decide +kernel), List.mem_of_getElem? (i := 1400) (by decide +kernel), List.mem_of_getElem? (i := 1401) (by decide +kernel)⟩
theorem lw_p68 : lw_okq (⟨"SteamNationsModel", "insideMany", "()I"⟩, 56) := ⟨⟨by decide +kernel, by decide +kernel⟩, List.mem_of_getElem? (i := 1128) (by decide +kernel), List.mem_of_getElem? (i := 1404) (by decide +kernel), List.mem_of_getElem? (i := 1405) (by decide +kernel)⟩
theorem lw_p69 : lw_okq (⟨"SteamNationsModel", "pleasedMany", "()I"⟩, 56) := ⟨⟨by decide +kernel, by decide +kernel⟩, List.mem_of_getElem? (i := 1128) (by decide +kernel), List.mem_of_getElem? (i := 1408) (by decide +kernel), List.mem_of_getElem? (i := 1409) (by decide +kernel)⟩
theorem lw_p70 : lw_okq (⟨"SteamNationsModel", "bounded", "(JZ)J"⟩, 56) := ⟨⟨by decide +kernel, by decide +kernel⟩, List.mem_of_getElem? (i := 1128) (by decide +kernel), List.mem_of_getElem? (i := 1412) (by decide +kernel), List.mem_of_getElem? (i := 1413) (by decide +kernel)⟩
theorem lw_p71 : lw_okq (⟨"SteamNationsModel", "testOf", "(Z)Z"⟩, 56) := ⟨⟨by decide +kernel, by decide +kernel⟩, List.mem_of_getElem? (i := 1128) (by decide +kernel), List.mem_of_getElem? (i := 1418) (by decide +kernel), List.mem_of_getElem? (i := 1419) (by decide +kernel)⟩
theorem lw_p72 : lw_okq (⟨"SteamNationsModel", "bothOf", "(Z)Z"⟩, 56) := ⟨⟨by decide +kernel, by decide +kernel⟩, List.mem_of_getElem? (i := 1128) (by decide +kernel), List.mem_of_getElem? (i := 1422) (by decide +kernel), List.mem_of_getElem? (i := 1423) (by decide +kernel)⟩
theorem lw_p73 : lw_okq (⟨"SteamNationsModel", "plainOf", "(Z)Z"⟩, 56) := ⟨⟨by decide +kernel, by decide +kernel⟩, List.mem_of_getElem? (i := 1128) (by decide +kernel), List.mem_of_getElem? (i := 1426) (by decide +kernel), List.mem_of_getElem? (i := 1427) (by decide +kernel)⟩
theorem lw_p74 : lw_okq (⟨"SteamNationsModel", "positiveOf", "(Z)Z"⟩, 56) := ⟨⟨by decide +kernel, by decide +kernel⟩, List.mem_of_getElem? (i := 1128) (by decide +kernel), List.mem_of_getElem? (i := 1430) (by decide +kernel), List.mem_of_getElem? (i := 1431) (by decide +kernel)⟩
theorem lw_p75 : lw_okq (⟨"SteamNationsModel", "onSeat", "(I)I"⟩, 56) := ⟨⟨by decide +kernel, by decide +kernel⟩, List.mem_of_getElem? (i := 1128) (by decide +kernel), List.mem_of_getElem? (i := 1442) (by decide +kernel), List.mem_of_getElem? (i := 1443) (by decide +kernel)⟩
theorem lw_p76 : lw_okq (⟨"SteamNationsModel", "givesTo", "(II)I"⟩, 56) := ⟨⟨by decide +kernel, by decide +kernel⟩, List.mem_of_getElem? (i := 1128) (by decide +kernel), List.mem_of_getElem? (i := 1453) (by decide +kernel), List.mem_of_getElem? (i := 1454) (by decide +kernel)⟩
theorem lw_p77 : lw_okq (⟨"SteamNationsModel", "readsAs", "(Z)Z"⟩, 56) := ⟨⟨by decide +kernel, by decide +kernel⟩, List.mem_of_getElem? (i := 1128) (by decide +kernel), List.mem_of_getElem? (i := 1487) (by decide +kernel), List.mem_of_getElem? (i := 1488) (by decide +kernel)⟩
theorem lw_p78 : lw_okq (⟨"SteamNationsModel", "reads", "()Z"⟩, 56) := ⟨⟨by decide +kernel, by decide +kernel⟩, List.mem_of_getElem? (i := 1128) (by decide +kernel), List.mem_of_getElem? (i := 1491) (by decide +kernel), List.mem_of_getElem? (i := 1492) (by decide +kernel)⟩
theorem lw_p79 : lw_okq (⟨"SteamNationsModel", "splits", "(I)V"⟩, 56) := ⟨⟨by decide +kernel, by decide +kernel⟩, List.mem_of_getElem? (i := 1128) (by decide +kernel), List.mem_of_getElem? (i := 1495) (by decide +kernel), List.mem_of_getElem? (i := 1496) (by decide +kernel)⟩
def lw_privs_5 : List (MethodName × Nat) := [(⟨"SteamNationsModel", "termOf", "(Z)J"⟩, 56), (⟨"SteamNationsModel", "partOf", "(Z)J"⟩, 56), (⟨"SteamNationsModel", "passes0", "(I)Z"⟩, 56), (⟨"SteamNationsModel", "orderValue", "(II)I"⟩, 56), (⟨"SteamNationsModel", "insideMany", "()I"⟩, 56), (⟨"SteamNationsModel", "pleasedMany", "()I"⟩, 56), (⟨"SteamNationsModel", "bounded", "(JZ)J"⟩, 56), (⟨"SteamNationsModel", "testOf", "(Z)Z"⟩, 56), (⟨"SteamNationsModel", "bothOf", "(Z)Z"⟩, 56), (⟨"SteamNationsModel", "plainOf", "(Z)Z"⟩, 56), (⟨"SteamNationsModel", "positiveOf", "(Z)Z"⟩, 56), (⟨"SteamNationsModel", "onSeat", "(I)I"⟩, 56), (⟨"SteamNationsModel", "givesTo", "(II)I"⟩, 56), (⟨"SteamNationsModel", "readsAs", "(Z)Z"⟩, 56), (⟨"SteamNationsModel", "reads", "()Z"⟩, 56), (⟨"SteamNationsModel", "splits", "(I)V"⟩, 56)]
theorem lw_r5 : ∀ q ∈ lw_privs_5, lw_okq q := List.forall_mem_cons.mpr ⟨lw_p64, List.forall_mem_cons.mpr ⟨lw_p65, List.forall_mem_cons.mpr ⟨lw_p66, List.forall_mem_cons.mpr ⟨lw_p67, List.forall_mem_cons.mpr ⟨lw_p68, List.forall_mem_cons.mpr ⟨lw_p69, List.forall_mem_cons.mpr ⟨lw_p70, List.forall_mem_cons.mpr ⟨lw_p71, List.forall_mem_cons.mpr ⟨lw_p72, List.forall_mem_cons.mpr ⟨lw_p73, List.forall_mem_cons.mpr ⟨lw_p74, List.forall_mem_cons.mpr ⟨lw_p75, List.forall_mem_cons.mpr ⟨lw_p76, List.forall_mem_cons.mpr ⟨lw_p77, List.forall_mem_cons.mpr ⟨lw_p78, List.forall_mem_cons.mpr ⟨lw_p79, fun _ h => absurd h List.not_mem_nil⟩⟩⟩⟩⟩⟩⟩⟩⟩⟩⟩⟩⟩⟩⟩⟩
theorem lw_p80 : lw_okq (⟨"SteamNationsModel", "wordOf", "(II)I"⟩, 56) := ⟨⟨by decide +kernel, by decide +kernel⟩, List.mem_of_getElem? (i := 1128) (by decide +kernel), List.mem_of_getElem? (i := 1505) (by decide +kernel), List.mem_of_getElem? (i := 1506) (by decide +kernel)⟩
theorem lw_p81 : lw_okq (⟨"SteamNationsModel", "readOne", "()V"⟩, 56) := ⟨⟨by decide +kernel, by decide +kernel⟩, List.mem_of_getElem? (i := 1128) (by decide +kernel), List.mem_of_getElem? (i := 1510) (by decide +kernel), List.mem_of_getElem? (i := 1511) (by decide +kernel)⟩
theorem lw_p82 : lw_okq (⟨"SteamNationsModel", "readOrder", "()V"⟩, 56) := ⟨⟨by decide +kernel, by decide +kernel⟩, List.mem_of_getElem? (i := 1128) (by decide +kernel), List.mem_of_getElem? (i := 1514) (by decide +kernel), List.mem_of_getElem? (i := 1515) (by decide +kernel)⟩
theorem lw_p83 : lw_okq (⟨"SteamNationsModel", "takes0", "(I)Z"⟩, 56) := ⟨⟨by decide +kernel, by decide +kernel⟩, List.mem_of_getElem? (i := 1128) (by decide +kernel), List.mem_of_getElem? (i := 1518) (by decide +kernel), List.mem_of_getElem? (i := 1519) (by decide +kernel)⟩
theorem lw_p84 : lw_okq (⟨"SteamNationsModel", "fine", "()Z"⟩, 56) := ⟨⟨by decide +kernel, by decide +kernel⟩, List.mem_of_getElem? (i := 1128) (by decide +kernel), List.mem_of_getElem? (i := 1522) (by decide +kernel), List.mem_of_getElem? (i := 1523) (by decide +kernel)⟩
theorem lw_p85 : lw_okq (⟨"SteamNationsModel", "readSum", "(I)V"⟩, 56) := ⟨⟨by decide +kernel, by decide +kernel⟩, List.mem_of_getElem? (i := 1128) (by decide +kernel), List.mem_of_getElem? (i := 1526) (by decide +kernel), List.mem_of_getElem? (i := 1527) (by decide +kernel)⟩
theorem lw_p86 : lw_okq (⟨"SteamNationsModel", "readTerm", "(I)V"⟩, 56) := ⟨⟨by decide +kernel, by decide +kernel⟩, List.mem_of_getElem? (i := 1128) (by decide +kernel), List.mem_of_getElem? (i := 1530) (by decide +kernel), List.mem_of_getElem? (i := 1531) (by decide +kernel)⟩
theorem lw_p87 : lw_okq (⟨"SteamNationsModel", "readPart", "(I)V"⟩, 56) := ⟨⟨by decide +kernel, by decide +kernel⟩, List.mem_of_getElem? (i := 1128) (by decide +kernel), List.mem_of_getElem? (i := 1534) (by decide +kernel), List.mem_of_getElem? (i := 1535) (by decide +kernel)⟩
theorem lw_p88 : lw_okq (⟨"SteamNationsModel", "faults", "()V"⟩, 56) := ⟨⟨by decide +kernel, by decide +kernel⟩, List.mem_of_getElem? (i := 1128) (by decide +kernel), List.mem_of_getElem? (i := 1538) (by decide +kernel), List.mem_of_getElem? (i := 1539) (by decide +kernel)⟩
theorem lw_p89 : lw_okq (⟨"SteamNationsModel", "must", "(I)V"⟩, 56) := ⟨⟨by decide +kernel, by decide +kernel⟩, List.mem_of_getElem? (i := 1128) (by decide +kernel), List.mem_of_getElem? (i := 1542) (by decide +kernel), List.mem_of_getElem? (i := 1543) (by decide +kernel)⟩
theorem lw_p90 : lw_okq (⟨"SteamNationsModel", "leaf", "()V"⟩, 56) := ⟨⟨by decide +kernel, by decide +kernel⟩, List.mem_of_getElem? (i := 1128) (by decide +kernel), List.mem_of_getElem? (i := 1546) (by decide +kernel), List.mem_of_getElem? (i := 1547) (by decide +kernel)⟩
theorem lw_p91 : lw_okq (⟨"SteamNationsModel", "mustNumber", "(II)V"⟩, 56) := ⟨⟨by decide +kernel, by decide +kernel⟩, List.mem_of_getElem? (i := 1128) (by decide +kernel), List.mem_of_getElem? (i := 1550) (by decide +kernel), List.mem_of_getElem? (i := 1551) (by decide +kernel)⟩
theorem lw_p92 : lw_okq (⟨"SteamNationsModel", "readTest", "(I)V"⟩, 56) := ⟨⟨by decide +kernel, by decide +kernel⟩, List.mem_of_getElem? (i := 1128) (by decide +kernel), List.mem_of_getElem? (i := 1554) (by decide +kernel), List.mem_of_getElem? (i := 1555) (by decide +kernel)⟩
theorem lw_p93 : lw_okq (⟨"SteamNationsModel", "readBoth", "(I)V"⟩, 56) := ⟨⟨by decide +kernel, by decide +kernel⟩, List.mem_of_getElem? (i := 1128) (by decide +kernel), List.mem_of_getElem? (i := 1558) (by decide +kernel), List.mem_of_getElem? (i := 1559) (by decide +kernel)⟩
theorem lw_p94 : lw_okq (⟨"SteamNationsModel", "readPlain", "(I)V"⟩, 56) := ⟨⟨by decide +kernel, by decide +kernel⟩, List.mem_of_getElem? (i := 1128) (by decide +kernel), List.mem_of_getElem? (i := 1562) (by decide +kernel), List.mem_of_getElem? (i := 1563) (by decide +kernel)⟩
theorem lw_p95 : lw_okq (⟨"SteamNationsModel", "readClause", "()V"⟩, 56) := ⟨⟨by decide +kernel, by decide +kernel⟩, List.mem_of_getElem? (i := 1128) (by decide +kernel), List.mem_of_getElem? (i := 1566) (by decide +kernel), List.mem_of_getElem? (i := 1567) (by decide +kernel)⟩
def lw_privs_6 : List (MethodName × Nat) := [(⟨"SteamNationsModel", "wordOf", "(II)I"⟩, 56), (⟨"SteamNationsModel", "readOne", "()V"⟩, 56), (⟨"SteamNationsModel", "readOrder", "()V"⟩, 56), (⟨"SteamNationsModel", "takes0", "(I)Z"⟩, 56), (⟨"SteamNationsModel", "fine", "()Z"⟩, 56), (⟨"SteamNationsModel", "readSum", "(I)V"⟩, 56), (⟨"SteamNationsModel", "readTerm", "(I)V"⟩, 56), (⟨"SteamNationsModel", "readPart", "(I)V"⟩, 56), (⟨"SteamNationsModel", "faults", "()V"⟩, 56), (⟨"SteamNationsModel", "must", "(I)V"⟩, 56), (⟨"SteamNationsModel", "leaf", "()V"⟩, 56), (⟨"SteamNationsModel", "mustNumber", "(II)V"⟩, 56), (⟨"SteamNationsModel", "readTest", "(I)V"⟩, 56), (⟨"SteamNationsModel", "readBoth", "(I)V"⟩, 56), (⟨"SteamNationsModel", "readPlain", "(I)V"⟩, 56), (⟨"SteamNationsModel", "readClause", "()V"⟩, 56)]
theorem lw_r6 : ∀ q ∈ lw_privs_6, lw_okq q := List.forall_mem_cons.mpr ⟨lw_p80, List.forall_mem_cons.mpr ⟨lw_p81, List.forall_mem_cons.mpr ⟨lw_p82, List.forall_mem_cons.mpr ⟨lw_p83, List.forall_mem_cons.mpr ⟨lw_p84, List.forall_mem_cons.mpr ⟨lw_p85, List.forall_mem_cons.mpr ⟨lw_p86, List.forall_mem_cons.mpr ⟨lw_p87, List.forall_mem_cons.mpr ⟨lw_p88, List.forall_mem_cons.mpr ⟨lw_p89, List.forall_mem_cons.mpr ⟨lw_p90, List.forall_mem_cons.mpr ⟨lw_p91, List.forall_mem_cons.mpr ⟨lw_p92, List.forall_mem_cons.mpr ⟨lw_p93, List.forall_mem_cons.mpr ⟨lw_p94, List.forall_mem_cons.mpr ⟨lw_p95, fun _ h => absurd h List.not_mem_nil⟩⟩⟩⟩⟩⟩⟩⟩⟩⟩⟩⟩⟩⟩⟩⟩
theorem lw_p96 : lw_okq (⟨"SteamNationsModel", "lays", "(I)V"⟩, 56) := ⟨⟨by decide +kernel, by decide +kernel⟩, List.mem_of_getElem? (i := 1128) (by decide +kernel), List.mem_of_getElem? (i := 1570) (by decide +kernel), List.mem_of_getElem? (i := 1571) (by decide +kernel)⟩
theorem lw_p97 : lw_okq (⟨"SteamNationsModel", "isLaw", "(I)Z"⟩, 56) := ⟨⟨by decide +kernel, by decide +kernel⟩, List.mem_of_getElem? (i := 1128) (by decide +kernel), List.mem_of_getElem? (i := 1582) (by decide +kernel), List.mem_of_getElem? (i := 1583) (by decide +kernel)⟩
theorem lw_p98 : lw_okq (⟨"SteamNationsModel", "seatsKept", "(II)I"⟩, 56) := ⟨⟨by decide +kernel, by decide +kernel⟩, List.mem_of_getElem? (i := 1128) (by decide +kernel), List.mem_of_getElem? (i := 1594) (by decide +kernel), List.mem_of_getElem? (i := 1595) (by decide +kernel)⟩
theorem lw_p99 : lw_okq (⟨"SteamNationsModel", "keeps", "(I)V"⟩, 56) := ⟨⟨by decide +kernel, by decide +kernel⟩, List.mem_of_getElem? (i := 1128) (by decide +kernel), List.mem_of_getElem? (i := 1598) (by decide +kernel), List.mem_of_getElem? (i := 1599) (by decide +kernel)⟩
theorem lw_p100 : lw_okq (⟨"SteamNationsModel", "goodOr", "(I)I"⟩, 56) := ⟨⟨by decide +kernel, by decide +kernel⟩, List.mem_of_getElem? (i := 1128) (by decide +kernel), List.mem_of_getElem? (i := 1602) (by decide +kernel), List.mem_of_getElem? (i := 1603) (by decide +kernel)⟩
theorem lw_p101 : lw_okq (⟨"SteamNationsModel", "outKept", "(I)I"⟩, 56) := ⟨⟨by decide +kernel, by decide +kernel⟩, List.mem_of_getElem? (i := 1128) (by decide +kernel), List.mem_of_getElem? (i := 1610) (by decide +kernel), List.mem_of_getElem? (i := 1611) (by decide +kernel)⟩
theorem lw_p102 : lw_okq (⟨"SteamNationsModel", "swapsKept", "(II)I"⟩, 56) := ⟨⟨by decide +kernel, by decide +kernel⟩, List.mem_of_getElem? (i := 1128) (by decide +kernel), List.mem_of_getElem? (i := 1618) (by decide +kernel), List.mem_of_getElem? (i := 1619) (by decide +kernel)⟩
theorem lw_p103 : lw_okq (⟨"SteamNationsModel", "passesKept", "()I"⟩, 56) := ⟨⟨by decide +kernel, by decide +kernel⟩, List.mem_of_getElem? (i := 1128) (by decide +kernel), List.mem_of_getElem? (i := 1626) (by decide +kernel), List.mem_of_getElem? (i := 1627) (by decide +kernel)⟩
theorem lw_p104 : lw_okq (⟨"SteamNationsModel", "minutePasses", "()V"⟩, 56) := ⟨⟨by decide +kernel, by decide +kernel⟩, List.mem_of_getElem? (i := 1128) (by decide +kernel), List.mem_of_getElem? (i := 1630) (by decide +kernel), List.mem_of_getElem? (i := 1631) (by decide +kernel)⟩
theorem lw_p105 : lw_okq (⟨"SteamNationsModel", "givesAll", "(I)V"⟩, 56) := ⟨⟨by decide +kernel, by decide +kernel⟩, List.mem_of_getElem? (i := 1128) (by decide +kernel), List.mem_of_getElem? (i := 1634) (by decide +kernel), List.mem_of_getElem? (i := 1635) (by decide +kernel)⟩
theorem lw_p106 : lw_okq (⟨"SteamNationsModel", "laysAside", "(I)V"⟩, 56) := ⟨⟨by decide +kernel, by decide +kernel⟩, List.mem_of_getElem? (i := 1128) (by decide +kernel), List.mem_of_getElem? (i := 1645) (by decide +kernel), List.mem_of_getElem? (i := 1646) (by decide +kernel)⟩
theorem lw_p107 : lw_okq (⟨"SteamNationsModel", "passMinutes", "(I)V"⟩, 56) := ⟨⟨by decide +kernel, by decide +kernel⟩, List.mem_of_getElem? (i := 1128) (by decide +kernel), List.mem_of_getElem? (i := 1649) (by decide +kernel), List.mem_of_getElem? (i := 1650) (by decide +kernel)⟩
theorem lw_p108 : lw_okq (⟨"SteamNationsModel", "takesBack", "(I)V"⟩, 56) := ⟨⟨by decide +kernel, by decide +kernel⟩, List.mem_of_getElem? (i := 1128) (by decide +kernel), List.mem_of_getElem? (i := 1653) (by decide +kernel), List.mem_of_getElem? (i := 1654) (by decide +kernel)⟩
theorem lw_p109 : lw_okq (⟨"SteamNationsModel", "areOne", "()Z"⟩, 56) := ⟨⟨by decide +kernel, by decide +kernel⟩, List.mem_of_getElem? (i := 1128) (by decide +kernel), List.mem_of_getElem? (i := 1665) (by decide +kernel), List.mem_of_getElem? (i := 1666) (by decide +kernel)⟩
theorem lw_p110 : lw_okq (⟨"SteamNationsModel", "laysPleased", "(I)I"⟩, 56) := ⟨⟨by decide +kernel, by decide +kernel⟩, List.mem_of_getElem? (i := 1128) (by decide +kernel), List.mem_of_getElem? (i := 1673) (by decide +kernel), List.mem_of_getElem? (i := 1674) (by decide +kernel)⟩
theorem lw_p111 : lw_okq (⟨"SteamNationsModel", "laysHolders", "()V"⟩, 56) := ⟨⟨by decide +kernel, by decide +kernel⟩, List.mem_of_getElem? (i := 1128) (by decide +kernel), List.mem_of_getElem? (i := 1677) (by decide +kernel), List.mem_of_getElem? (i := 1678) (by decide +kernel)⟩
def lw_privs_7 : List (MethodName × Nat) := [(⟨"SteamNationsModel", "lays", "(I)V"⟩, 56), (⟨"SteamNationsModel", "isLaw", "(I)Z"⟩, 56), (⟨"SteamNationsModel", "seatsKept", "(II)I"⟩, 56), (⟨"SteamNationsModel", "keeps", "(I)V"⟩, 56), (⟨"SteamNationsModel", "goodOr", "(I)I"⟩, 56), (⟨"SteamNationsModel", "outKept", "(I)I"⟩, 56), (⟨"SteamNationsModel", "swapsKept", "(II)I"⟩, 56), (⟨"SteamNationsModel", "passesKept", "()I"⟩, 56), (⟨"SteamNationsModel", "minutePasses", "()V"⟩, 56), (⟨"SteamNationsModel", "givesAll", "(I)V"⟩, 56), (⟨"SteamNationsModel", "laysAside", "(I)V"⟩, 56), (⟨"SteamNationsModel", "passMinutes", "(I)V"⟩, 56), (⟨"SteamNationsModel", "takesBack", "(I)V"⟩, 56), (⟨"SteamNationsModel", "areOne", "()Z"⟩, 56), (⟨"SteamNationsModel", "laysPleased", "(I)I"⟩, 56), (⟨"SteamNationsModel", "laysHolders", "()V"⟩, 56)]
theorem lw_r7 : ∀ q ∈ lw_privs_7, lw_okq q := List.forall_mem_cons.mpr ⟨lw_p96, List.forall_mem_cons.mpr ⟨lw_p97, List.forall_mem_cons.mpr ⟨lw_p98, List.forall_mem_cons.mpr ⟨lw_p99, List.forall_mem_cons.mpr ⟨lw_p100, List.forall_mem_cons.mpr ⟨lw_p101, List.forall_mem_cons.mpr ⟨lw_p102, List.forall_mem_cons.mpr ⟨lw_p103, List.forall_mem_cons.mpr ⟨lw_p104, List.forall_mem_cons.mpr ⟨lw_p105, List.forall_mem_cons.mpr ⟨lw_p106, List.forall_mem_cons.mpr ⟨lw_p107, List.forall_mem_cons.mpr ⟨lw_p108, List.forall_mem_cons.mpr ⟨lw_p109, List.forall_mem_cons.mpr ⟨lw_p110, List.forall_mem_cons.mpr ⟨lw_p111, fun _ h => absurd h List.not_mem_nil⟩⟩⟩⟩⟩⟩⟩⟩⟩⟩⟩⟩⟩⟩⟩⟩
theorem lw_p112 : lw_okq (⟨"SteamNationsModel", "seatsAll", "(I)V"⟩, 56) := ⟨⟨by decide +kernel, by decide +kernel⟩, List.mem_of_getElem? (i := 1128) (by decide +kernel), List.mem_of_getElem? (i := 1681) (by decide +kernel), List.mem_of_getElem? (i := 1682) (by decide +kernel)⟩
theorem lw_p113 : lw_okq (⟨"SteamNationsModel", "laysSwaps", "(I)V"⟩, 56) := ⟨⟨by decide +kernel, by decide +kernel⟩, List.mem_of_getElem? (i := 1128) (by decide +kernel), List.mem_of_getElem? (i := 1695) (by decide +kernel), List.mem_of_getElem? (i := 1696) (by decide +kernel)⟩
theorem lw_p114 : lw_okq (⟨"SteamNationsModel", "swapped", "(II)I"⟩, 56) := ⟨⟨by decide +kernel, by decide +kernel⟩, List.mem_of_getElem? (i := 1128) (by decide +kernel), List.mem_of_getElem? (i := 1699) (by decide +kernel), List.mem_of_getElem? (i := 1700) (by decide +kernel)⟩
theorem lw_p115 : lw_okq (⟨"SteamNationsModel", "swapsTwo", "(II)V"⟩, 56) := ⟨⟨by decide +kernel, by decide +kernel⟩, List.mem_of_getElem? (i := 1128) (by decide +kernel), List.mem_of_getElem? (i := 1703) (by decide +kernel), List.mem_of_getElem? (i := 1704) (by decide +kernel)⟩
theorem lw_p116 : lw_okq (⟨"SteamNationsModel", "seatingNow", "()I"⟩, 56) := ⟨⟨by decide +kernel, by decide +kernel⟩, List.mem_of_getElem? (i := 1128) (by decide +kernel), List.mem_of_getElem? (i := 1707) (by decide +kernel), List.mem_of_getElem? (i := 1708) (by decide +kernel)⟩
theorem lw_p117 : lw_okq (⟨"SteamNationsModel", "firstTwo", "(I)I"⟩, 56) := ⟨⟨by decide +kernel, by decide +kernel⟩, List.mem_of_getElem? (i := 1128) (by decide +kernel), List.mem_of_getElem? (i := 1711) (by decide +kernel), List.mem_of_getElem? (i := 1712) (by decide +kernel)⟩
theorem lw_p118 : lw_okq (⟨"SteamNationsModel", "laysSat", "(I)I"⟩, 56) := ⟨⟨by decide +kernel, by decide +kernel⟩, List.mem_of_getElem? (i := 1128) (by decide +kernel), List.mem_of_getElem? (i := 1727) (by decide +kernel), List.mem_of_getElem? (i := 1728) (by decide +kernel)⟩
theorem lw_p119 : lw_okq (⟨"SteamNationsModel", "isSoAt", "(I)Z"⟩, 56) := ⟨⟨by decide +kernel, by decide +kernel⟩, List.mem_of_getElem? (i := 1128) (by decide +kernel), List.mem_of_getElem? (i := 1731) (by decide +kernel), List.mem_of_getElem? (i := 1732) (by decide +kernel)⟩
theorem lw_p120 : lw_okq (⟨"SteamNationsModel", "mostAlike", "(I)I"⟩, 56) := ⟨⟨by decide +kernel, by decide +kernel⟩, List.mem_of_getElem? (i := 1128) (by decide +kernel), List.mem_of_getElem? (i := 1739) (by decide +kernel), List.mem_of_getElem? (i := 1740) (by decide +kernel)⟩
theorem lw_p121 : lw_okq (⟨"SteamNationsModel", "isTreaty", "(II)Z"⟩, 56) := ⟨⟨by decide +kernel, by decide +kernel⟩, List.mem_of_getElem? (i := 1128) (by decide +kernel), List.mem_of_getElem? (i := 1750) (by decide +kernel), List.mem_of_getElem? (i := 1751) (by decide +kernel)⟩
theorem lw_p122 : lw_okq (⟨"SteamNationsModel", "common", "(II)I"⟩, 56) := ⟨⟨by decide +kernel, by decide +kernel⟩, List.mem_of_getElem? (i := 1128) (by decide +kernel), List.mem_of_getElem? (i := 1754) (by decide +kernel), List.mem_of_getElem? (i := 1755) (by decide +kernel)⟩
theorem lw_p123 : lw_okq (⟨"SteamNationsModel", "drops", "()V"⟩, 56) := ⟨⟨by decide +kernel, by decide +kernel⟩, List.mem_of_getElem? (i := 1128) (by decide +kernel), List.mem_of_getElem? (i := 1762) (by decide +kernel), List.mem_of_getElem? (i := 1763) (by decide +kernel)⟩
theorem lw_p124 : lw_okq (⟨"SteamNationsModel", "runs", "(I)Z"⟩, 56) := ⟨⟨by decide +kernel, by decide +kernel⟩, List.mem_of_getElem? (i := 1128) (by decide +kernel), List.mem_of_getElem? (i := 1784) (by decide +kernel), List.mem_of_getElem? (i := 1785) (by decide +kernel)⟩
theorem lw_p125 : lw_okq (⟨"SteamNationsModel", "goesAlong", "(IZ)V"⟩, 56) := ⟨⟨by decide +kernel, by decide +kernel⟩, List.mem_of_getElem? (i := 1128) (by decide +kernel), List.mem_of_getElem? (i := 1788) (by decide +kernel), List.mem_of_getElem? (i := 1789) (by decide +kernel)⟩
theorem lw_p126 : lw_okq (⟨"SteamNationsModel", "obeys", "()I"⟩, 56) := ⟨⟨by decide +kernel, by decide +kernel⟩, List.mem_of_getElem? (i := 1128) (by decide +kernel), List.mem_of_getElem? (i := 1792) (by decide +kernel), List.mem_of_getElem? (i := 1793) (by decide +kernel)⟩
theorem lw_p127 : lw_okq (⟨"SteamNationsModel", "minuteIsDrawn", "()V"⟩, 56) := ⟨⟨by decide +kernel, by decide +kernel⟩, List.mem_of_getElem? (i := 1128) (by decide +kernel), List.mem_of_getElem? (i := 1804) (by decide +kernel), List.mem_of_getElem? (i := 1805) (by decide +kernel)⟩
def lw_privs_8 : List (MethodName × Nat) := [(⟨"SteamNationsModel", "seatsAll", "(I)V"⟩, 56), (⟨"SteamNationsModel", "laysSwaps", "(I)V"⟩, 56), (⟨"SteamNationsModel", "swapped", "(II)I"⟩, 56), (⟨"SteamNationsModel", "swapsTwo", "(II)V"⟩, 56), (⟨"SteamNationsModel", "seatingNow", "()I"⟩, 56), (⟨"SteamNationsModel", "firstTwo", "(I)I"⟩, 56), (⟨"SteamNationsModel", "laysSat", "(I)I"⟩, 56), (⟨"SteamNationsModel", "isSoAt", "(I)Z"⟩, 56), (⟨"SteamNationsModel", "mostAlike", "(I)I"⟩, 56), (⟨"SteamNationsModel", "isTreaty", "(II)Z"⟩, 56), (⟨"SteamNationsModel", "common", "(II)I"⟩, 56), (⟨"SteamNationsModel", "drops", "()V"⟩, 56), (⟨"SteamNationsModel", "runs", "(I)Z"⟩, 56), (⟨"SteamNationsModel", "goesAlong", "(IZ)V"⟩, 56), (⟨"SteamNationsModel", "obeys", "()I"⟩, 56), (⟨"SteamNationsModel", "minuteIsDrawn", "()V"⟩, 56)]
theorem lw_r8 : ∀ q ∈ lw_privs_8, lw_okq q := List.forall_mem_cons.mpr ⟨lw_p112, List.forall_mem_cons.mpr ⟨lw_p113, List.forall_mem_cons.mpr ⟨lw_p114, List.forall_mem_cons.mpr ⟨lw_p115, List.forall_mem_cons.mpr ⟨lw_p116, List.forall_mem_cons.mpr ⟨lw_p117, List.forall_mem_cons.mpr ⟨lw_p118, List.forall_mem_cons.mpr ⟨lw_p119, List.forall_mem_cons.mpr ⟨lw_p120, List.forall_mem_cons.mpr ⟨lw_p121, List.forall_mem_cons.mpr ⟨lw_p122, List.forall_mem_cons.mpr ⟨lw_p123, List.forall_mem_cons.mpr ⟨lw_p124, List.forall_mem_cons.mpr ⟨lw_p125, List.forall_mem_cons.mpr ⟨lw_p126, List.forall_mem_cons.mpr ⟨lw_p127, fun _ h => absurd h List.not_mem_nil⟩⟩⟩⟩⟩⟩⟩⟩⟩⟩⟩⟩⟩⟩⟩⟩
theorem lw_p128 : lw_okq (⟨"SteamNationsModel", "draws", "(I)I"⟩, 56) := ⟨⟨by decide +kernel, by decide +kernel⟩, List.mem_of_getElem? (i := 1128) (by decide +kernel), List.mem_of_getElem? (i := 1808) (by decide +kernel), List.mem_of_getElem? (i := 1809) (by decide +kernel)⟩
theorem lw_p129 : lw_okq (⟨"SteamNationsModel", "allOf", "(I)I"⟩, 56) := ⟨⟨by decide +kernel, by decide +kernel⟩, List.mem_of_getElem? (i := 1128) (by decide +kernel), List.mem_of_getElem? (i := 1823) (by decide +kernel), List.mem_of_getElem? (i := 1824) (by decide +kernel)⟩
def lw_privs_9 : List (MethodName × Nat) := [(⟨"SteamNationsModel", "draws", "(I)I"⟩, 56), (⟨"SteamNationsModel", "allOf", "(I)I"⟩, 56)]
theorem lw_r9 : ∀ q ∈ lw_privs_9, lw_okq q := List.forall_mem_cons.mpr ⟨lw_p128, List.forall_mem_cons.mpr ⟨lw_p129, fun _ h => absurd h List.not_mem_nil⟩⟩
def lw_privs : List (MethodName × Nat) := lw_privs_1 ++ (lw_privs_2 ++ (lw_privs_3 ++ (lw_privs_4 ++ (lw_privs_5 ++ (lw_privs_6 ++ (lw_privs_7 ++ (lw_privs_8 ++ (lw_privs_9))))))))
def lw_tbl : List Cond := k2_sels lw_privs ++ tables_1
theorem lw_privs_ok : ∀ q ∈ lw_privs, lw_okq q := by
  show ∀ q ∈ lw_privs_1 ++ (lw_privs_2 ++ (lw_privs_3 ++ (lw_privs_4 ++ (lw_privs_5 ++ (lw_privs_6 ++ (lw_privs_7 ++ (lw_privs_8 ++ (lw_privs_9)))))))), lw_okq q
  exact List.forall_mem_append.mpr ⟨lw_r1, List.forall_mem_append.mpr ⟨lw_r2, List.forall_mem_append.mpr ⟨lw_r3, List.forall_mem_append.mpr ⟨lw_r4, List.forall_mem_append.mpr ⟨lw_r5, List.forall_mem_append.mpr ⟨lw_r6, List.forall_mem_append.mpr ⟨lw_r7, List.forall_mem_append.mpr ⟨lw_r8, lw_r9⟩⟩⟩⟩⟩⟩⟩⟩
-- ===== end of PART A; then your names; then what follows =====
end
section
def gw : List Cond := lw_tbl.filter goodWord
theorem gw_mem {w : Cond} (i : Nat) (h : lw_tbl[i]? = some w) (hg : goodWord w = true) : w ∈ gw := List.mem_filter.mpr ⟨List.mem_of_getElem? h, hg⟩
theorem gw_tbl {w : Cond} (h : w ∈ gw) : w ∈ lw_tbl := (List.mem_filter.mp h).1
def cn_0 : String := "SteamNations$Errands"
def ft_0 : u_T := fun k => match k with
  | 0 => ("SteamNations$Errands", "moves", "LSteamNations$Moves;", true)
  | 1 => ("SteamNations$Errands", "machine", "LSteamNations$Machine;", true)
  | 2 => ("SteamNations$Errands", "roomAhead", "LSteamNations$Room;", true)
  | 3 => ("SteamNations$Errands", "pastAhead", "LSteamNations$Past;", true)
  | 4 => ("SteamNations$Errands", "done", "I", false)
  | 5 => ("SteamNations$Errands", "latest", "I", false)
  | _ => ("SteamNations$Errands", "stoppedAt", "I", false)
def fy_0 : Nat → FieldType := fun k => match k with
  | 0 => .object "SteamNations$Moves"
  | 1 => .object "SteamNations$Machine"
  | 2 => .object "SteamNations$Room"
  | 3 => .object "SteamNations$Past"
  | 4 => .int
  | 5 => .int
  | _ => .int
theorem nm_0 : ∀ a, a < 7 → ∀ b, b < 7 → a ≠ b → (ft_0 a).2.1 ≠ (ft_0 b).2.1 := by decide +kernel
theorem fo_0 : ∀ k, k < 7 → parseFieldDescriptor (ft_0 k).2.2.1 = some (fy_0 k) := by decide +kernel
def cn_1 : String := "SteamNations$House"
def ft_1 : u_T := fun k => match k with
  | 0 => ("SteamNations$House", "room", "LSteamNations$Room;", true)
  | 1 => ("SteamNations$House", "noLaw", "LSteamNations$Text;", true)
  | 2 => ("SteamNations$House", "laws", "[LSteamNations$Text;", true)
  | 3 => ("SteamNations$House", "lawCount", "I", false)
  | 4 => ("SteamNations$House", "force", "I", false)
  | 5 => ("SteamNations$House", "sights", "[I", true)
  | _ => ("SteamNations$House", "sightCount", "I", false)
def fy_1 : Nat → FieldType := fun k => match k with
  | 0 => .object "SteamNations$Room"
  | 1 => .object "SteamNations$Text"
  | 2 => .array (.object "SteamNations$Text")
  | 3 => .int
  | 4 => .int
  | 5 => .array .int
  | _ => .int
theorem nm_1 : ∀ a, a < 7 → ∀ b, b < 7 → a ≠ b → (ft_1 a).2.1 ≠ (ft_1 b).2.1 := by decide +kernel
theorem fo_1 : ∀ k, k < 7 → parseFieldDescriptor (ft_1 k).2.2.1 = some (fy_1 k) := by decide +kernel
def cn_2 : String := "SteamNations$Machine"
def ft_2 : u_T := fun k => match k with
  | 0 => ("SteamNations$Machine", "words", "[I", true)
  | _ => ("SteamNations$Machine", "stack", "[I", true)
def fy_2 : Nat → FieldType := fun k => match k with
  | 0 => .array .int
  | _ => .array .int
theorem nm_2 : ∀ a, a < 2 → ∀ b, b < 2 → a ≠ b → (ft_2 a).2.1 ≠ (ft_2 b).2.1 := by decide +kernel
theorem fo_2 : ∀ k, k < 2 → parseFieldDescriptor (ft_2 k).2.2.1 = some (fy_2 k) := by decide +kernel
def cn_3 : String := "SteamNations$Moves"
def ft_3 : u_T := fun k => match k with
  | 0 => ("SteamNations$Moves", "house", "LSteamNations$House;", true)
  | 1 => ("SteamNations$Moves", "past", "LSteamNations$Past;", true)
  | _ => ("SteamNations$Moves", "steam", "LSteamNations$Steam;", true)
def fy_3 : Nat → FieldType := fun k => match k with
  | 0 => .object "SteamNations$House"
  | 1 => .object "SteamNations$Past"
  | _ => .object "SteamNations$Steam"
theorem nm_3 : ∀ a, a < 3 → ∀ b, b < 3 → a ≠ b → (ft_3 a).2.1 ≠ (ft_3 b).2.1 := by decide +kernel
theorem fo_3 : ∀ k, k < 3 → parseFieldDescriptor (ft_3 k).2.2.1 = some (fy_3 k) := by decide +kernel
def cn_4 : String := "SteamNations$Past"
def ft_4 : u_T := fun k => match k with
  | 0 => ("SteamNations$Past", "kept", "[I", true)
  | 1 => ("SteamNations$Past", "next", "I", false)
  | _ => ("SteamNations$Past", "size", "I", false)
def fy_4 : Nat → FieldType := fun k => match k with
  | 0 => .array .int
  | 1 => .int
  | _ => .int
theorem nm_4 : ∀ a, a < 3 → ∀ b, b < 3 → a ≠ b → (ft_4 a).2.1 ≠ (ft_4 b).2.1 := by decide +kernel
theorem fo_4 : ∀ k, k < 3 → parseFieldDescriptor (ft_4 k).2.2.1 = some (fy_4 k) := by decide +kernel
def cn_5 : String := "SteamNations$Reader"
def ft_5 : u_T := fun k => match k with
  | 0 => ("SteamNations$Reader", "kinds", "[I", true)
  | 1 => ("SteamNations$Reader", "starts", "[I", true)
  | 2 => ("SteamNations$Reader", "numbers", "[I", true)
  | 3 => ("SteamNations$Reader", "code", "[I", true)
  | 4 => ("SteamNations$Reader", "marks", "[I", true)
  | 5 => ("SteamNations$Reader", "isOrders", "Z", false)
  | 6 => ("SteamNations$Reader", "now", "I", false)
  | 7 => ("SteamNations$Reader", "kind", "I", false)
  | 8 => ("SteamNations$Reader", "steps", "I", false)
  | 9 => ("SteamNations$Reader", "parts", "I", false)
  | _ => ("SteamNations$Reader", "faultAt", "I", false)
def fy_5 : Nat → FieldType := fun k => match k with
  | 0 => .array .int
  | 1 => .array .int
  | 2 => .array .int
  | 3 => .array .int
  | 4 => .array .int
  | 5 => .boolean
  | 6 => .int
  | 7 => .int
  | 8 => .int
  | 9 => .int
  | _ => .int
theorem nm_5 : ∀ a, a < 11 → ∀ b, b < 11 → a ≠ b → (ft_5 a).2.1 ≠ (ft_5 b).2.1 := by decide +kernel
theorem fo_5 : ∀ k, k < 11 → parseFieldDescriptor (ft_5 k).2.2.1 = some (fy_5 k) := by decide +kernel
def cn_6 : String := "SteamNations$Room"
def ft_6 : u_T := fun k => match k with
  | 0 => ("SteamNations$Room", "sitters", "I", false)
  | 1 => ("SteamNations$Room", "parts", "[I", true)
  | 2 => ("SteamNations$Room", "wishes", "[I", true)
  | 3 => ("SteamNations$Room", "seats", "[I", true)
  | _ => ("SteamNations$Room", "terms", "[I", true)
def fy_6 : Nat → FieldType := fun k => match k with
  | 0 => .int
  | 1 => .array .int
  | 2 => .array .int
  | 3 => .array .int
  | _ => .array .int
theorem nm_6 : ∀ a, a < 5 → ∀ b, b < 5 → a ≠ b → (ft_6 a).2.1 ≠ (ft_6 b).2.1 := by decide +kernel
theorem fo_6 : ∀ k, k < 5 → parseFieldDescriptor (ft_6 k).2.2.1 = some (fy_6 k) := by decide +kernel
def cn_7 : String := "SteamNations$Seatings"
def ft_7 : u_T := fun k => match k with
  | 0 => ("SteamNations$Seatings", "steam", "LSteamNations$Steam;", true)
  | 1 => ("SteamNations$Seatings", "paper", "LSteamNations$Room;", true)
  | 2 => ("SteamNations$Seatings", "rows", "[I", true)
  | 3 => ("SteamNations$Seatings", "nations", "[I", true)
  | 4 => ("SteamNations$Seatings", "far", "[I", true)
  | 5 => ("SteamNations$Seatings", "queue", "[I", true)
  | 6 => ("SteamNations$Seatings", "insiders", "[I", true)
  | 7 => ("SteamNations$Seatings", "places", "[I", true)
  | 8 => ("SteamNations$Seatings", "alike", "[I", true)
  | 9 => ("SteamNations$Seatings", "inside", "I", false)
  | 10 => ("SteamNations$Seatings", "many", "I", false)
  | _ => ("SteamNations$Seatings", "known", "I", false)
def fy_7 : Nat → FieldType := fun k => match k with
  | 0 => .object "SteamNations$Steam"
  | 1 => .object "SteamNations$Room"
  | 2 => .array .int
  | 3 => .array .int
  | 4 => .array .int
  | 5 => .array .int
  | 6 => .array .int
  | 7 => .array .int
  | 8 => .array .int
  | 9 => .int
  | 10 => .int
  | _ => .int
theorem nm_7 : ∀ a, a < 12 → ∀ b, b < 12 → a ≠ b → (ft_7 a).2.1 ≠ (ft_7 b).2.1 := by decide +kernel
theorem fo_7 : ∀ k, k < 12 → parseFieldDescriptor (ft_7 k).2.2.1 = some (fy_7 k) := by decide +kernel
def cn_8 : String := "SteamNations$Steam"
def ft_8 : u_T := fun k => match k with
  | 0 => ("SteamNations$Steam", "machine", "LSteamNations$Machine;", true)
  | 1 => ("SteamNations$Steam", "changes", "[I", true)
  | _ => ("SteamNations$Steam", "whoIs", "[I", true)
def fy_8 : Nat → FieldType := fun k => match k with
  | 0 => .object "SteamNations$Machine"
  | 1 => .array .int
  | _ => .array .int
theorem nm_8 : ∀ a, a < 3 → ∀ b, b < 3 → a ≠ b → (ft_8 a).2.1 ≠ (ft_8 b).2.1 := by decide +kernel
theorem fo_8 : ∀ k, k < 3 → parseFieldDescriptor (ft_8 k).2.2.1 = some (fy_8 k) := by decide +kernel
def cn_9 : String := "SteamNations$Text"
def ft_9 : u_T := fun k => match k with
  | 0 => ("SteamNations$Text", "code", "[I", true)
  | 1 => ("SteamNations$Text", "marks", "[I", true)
  | 2 => ("SteamNations$Text", "clauses", "I", true)
  | _ => ("SteamNations$Text", "kindBits", "I", true)
def fy_9 : Nat → FieldType := fun k => match k with
  | 0 => .array .int
  | 1 => .array .int
  | 2 => .int
  | _ => .int
theorem nm_9 : ∀ a, a < 4 → ∀ b, b < 4 → a ≠ b → (ft_9 a).2.1 ≠ (ft_9 b).2.1 := by decide +kernel
theorem fo_9 : ∀ k, k < 4 → parseFieldDescriptor (ft_9 k).2.2.1 = some (fy_9 k) := by decide +kernel
def cn_10 : String := "SteamNations"
def ft_10 : u_T := fun k => match k with
  | 0 => ("SteamNations", "house", "LSteamNations$House;", true)
  | 1 => ("SteamNations", "images", "[LSteamNations$House;", true)
  | 2 => ("SteamNations", "imageKept", "[Z", true)
  | 3 => ("SteamNations", "tape", "[I", true)
  | 4 => ("SteamNations", "reader", "LSteamNations$Reader;", true)
  | 5 => ("SteamNations", "steam", "LSteamNations$Steam;", true)
  | 6 => ("SteamNations", "past", "LSteamNations$Past;", true)
  | 7 => ("SteamNations", "moves", "LSteamNations$Moves;", true)
  | 8 => ("SteamNations", "errands", "LSteamNations$Errands;", true)
  | 9 => ("SteamNations", "seatings", "LSteamNations$Seatings;", true)
  | 10 => ("SteamNations", "paper", "LSteamNations$Room;", true)
  | 11 => ("SteamNations", "latestMornings", "LSteamNations$Room;", true)
  | 12 => ("SteamNations", "drops", "[I", true)
  | 13 => ("SteamNations", "dropsAhead", "[I", true)
  | 14 => ("SteamNations", "chances", "[J", true)
  | 15 => ("SteamNations", "refusals", "[I", true)
  | 16 => ("SteamNations", "tapeLength", "I", false)
  | 17 => ("SteamNations", "faultPlace", "I", false)
  | 18 => ("SteamNations", "puffCount", "I", false)
  | _ => ("SteamNations", "latestRefusal", "I", false)
def fy_10 : Nat → FieldType := fun k => match k with
  | 0 => .object "SteamNations$House"
  | 1 => .array (.object "SteamNations$House")
  | 2 => .array .boolean
  | 3 => .array .int
  | 4 => .object "SteamNations$Reader"
  | 5 => .object "SteamNations$Steam"
  | 6 => .object "SteamNations$Past"
  | 7 => .object "SteamNations$Moves"
  | 8 => .object "SteamNations$Errands"
  | 9 => .object "SteamNations$Seatings"
  | 10 => .object "SteamNations$Room"
  | 11 => .object "SteamNations$Room"
  | 12 => .array .int
  | 13 => .array .int
  | 14 => .array .long
  | 15 => .array .int
  | 16 => .int
  | 17 => .int
  | 18 => .int
  | _ => .int
theorem nm_10 : ∀ a, a < 20 → ∀ b, b < 20 → a ≠ b → (ft_10 a).2.1 ≠ (ft_10 b).2.1 := by decide +kernel
theorem fo_10 : ∀ k, k < 20 → parseFieldDescriptor (ft_10 k).2.2.1 = some (fy_10 k) := by decide +kernel
def cn_11 : String := "SteamNationsModel"
def ft_11 : u_T := fun k => match k with
  | 0 => ("SteamNationsModel", "status", "I", false)
  | 1 => ("SteamNationsModel", "refused", "[I", true)
  | 2 => ("SteamNationsModel", "kept", "[I", true)
  | 3 => ("SteamNationsModel", "images", "[I", true)
  | 4 => ("SteamNationsModel", "hasImage", "[Z", true)
  | 5 => ("SteamNationsModel", "aside", "[I", true)
  | 6 => ("SteamNationsModel", "puffs0", "I", false)
  | 7 => ("SteamNationsModel", "words", "[B", true)
  | 8 => ("SteamNationsModel", "firstWord", "I", false)
  | 9 => ("SteamNationsModel", "lastWord", "I", false)
  | 10 => ("SteamNationsModel", "isOrders", "Z", false)
  | 11 => ("SteamNationsModel", "tape", "[B", true)
  | 12 => ("SteamNationsModel", "five", "[I", true)
  | 13 => ("SteamNationsModel", "taped", "I", false)
  | 14 => ("SteamNationsModel", "fault", "I", false)
  | 15 => ("SteamNationsModel", "code", "[I", true)
  | 16 => ("SteamNationsModel", "value", "[I", true)
  | 17 => ("SteamNationsModel", "placed", "[I", true)
  | 18 => ("SteamNationsModel", "tokens", "I", false)
  | 19 => ("SteamNationsModel", "token", "I", false)
  | 20 => ("SteamNationsModel", "leaves", "I", false)
  | 21 => ("SteamNationsModel", "bad", "I", false)
  | 22 => ("SteamNationsModel", "go", "I", false)
  | 23 => ("SteamNationsModel", "goEnd", "I", false)
  | 24 => ("SteamNationsModel", "broken", "Z", false)
  | 25 => ("SteamNationsModel", "inOrders", "Z", false)
  | 26 => ("SteamNationsModel", "asked", "[I", true)
  | 27 => ("SteamNationsModel", "orderDone", "I", false)
  | 28 => ("SteamNationsModel", "orderLatest", "I", false)
  | 29 => ("SteamNationsModel", "more", "[I", true)
  | 30 => ("SteamNationsModel", "left0", "[I", true)
  | 31 => ("SteamNationsModel", "leftAhead", "[I", true)
  | 32 => ("SteamNationsModel", "undoMany", "I", false)
  | 33 => ("SteamNationsModel", "holders", "[I", true)
  | 34 => ("SteamNationsModel", "taken", "[I", true)
  | 35 => ("SteamNationsModel", "holderMany", "I", false)
  | 36 => ("SteamNationsModel", "seatingMany", "I", false)
  | 37 => ("SteamNationsModel", "pleased0", "[I", true)
  | 38 => ("SteamNationsModel", "swaps0", "[I", true)
  | 39 => ("SteamNationsModel", "queue", "[I", true)
  | 40 => ("SteamNationsModel", "mayHave", "[Z", true)
  | 41 => ("SteamNationsModel", "wouldBe", "[I", true)
  | 42 => ("SteamNationsModel", "alike", "[I", true)
  | 43 => ("SteamNationsModel", "wet", "[I", true)
  | 44 => ("SteamNationsModel", "given", "[I", true)
  | 45 => ("SteamNationsModel", "parts0", "[J", true)
  | 46 => ("SteamNationsModel", "stopped0", "I", false)
  | 47 => ("SteamNationsModel", "orderAt", "I", false)
  | 48 => ("SteamNationsModel", "timesOf", "I", false)
  | 49 => ("SteamNationsModel", "head", "I", false)
  | 50 => ("SteamNationsModel", "sumsAre", "Z", false)
  | 51 => ("SteamNationsModel", "testIs", "Z", false)
  | 52 => ("SteamNationsModel", "sums", "[J", true)
  | 53 => ("SteamNationsModel", "drawnMoved", "[I", true)
  | 54 => ("SteamNationsModel", "drawnMany", "I", false)
  | _ => ("SteamNationsModel", "latest", "I", false)
def fy_11 : Nat → FieldType := fun k => match k with
  | 0 => .int
  | 1 => .array .int
  | 2 => .array .int
  | 3 => .array .int
  | 4 => .array .boolean
  | 5 => .array .int
  | 6 => .int
  | 7 => .array .byte
  | 8 => .int
  | 9 => .int
  | 10 => .boolean
  | 11 => .array .byte
  | 12 => .array .int
  | 13 => .int
  | 14 => .int
  | 15 => .array .int
  | 16 => .array .int
  | 17 => .array .int
  | 18 => .int
  | 19 => .int
  | 20 => .int
  | 21 => .int
  | 22 => .int
  | 23 => .int
  | 24 => .boolean
  | 25 => .boolean
  | 26 => .array .int
  | 27 => .int
  | 28 => .int
  | 29 => .array .int
  | 30 => .array .int
  | 31 => .array .int
  | 32 => .int
  | 33 => .array .int
  | 34 => .array .int
  | 35 => .int
  | 36 => .int
  | 37 => .array .int
  | 38 => .array .int
  | 39 => .array .int
  | 40 => .array .boolean
  | 41 => .array .int
  | 42 => .array .int
  | 43 => .array .int
  | 44 => .array .int
  | 45 => .array .long
  | 46 => .int
  | 47 => .int
  | 48 => .int
  | 49 => .int
  | 50 => .boolean
  | 51 => .boolean
  | 52 => .array .long
  | 53 => .array .int
  | 54 => .int
  | _ => .int
theorem nm_11 : ∀ a, a < 56 → ∀ b, b < 56 → a ≠ b → (ft_11 a).2.1 ≠ (ft_11 b).2.1 := by decide +kernel
theorem fo_11 : ∀ k, k < 56 → parseFieldDescriptor (ft_11 k).2.2.1 = some (fy_11 k) := by decide +kernel
abbrev cls : List vw_C := [(cn_0, ft_0, 7), (cn_1, ft_1, 7), (cn_2, ft_2, 2), (cn_3, ft_3, 3), (cn_4, ft_4, 3), (cn_5, ft_5, 11), (cn_6, ft_6, 5), (cn_7, ft_7, 12), (cn_8, ft_8, 3), (cn_9, ft_9, 4), (cn_10, ft_10, 20), (cn_11, ft_11, 56)]
theorem in_0 : ∀ w ∈ u_ws cn_0 ft_0 7, w ∈ gw := by decide +kernel
theorem in_1 : ∀ w ∈ u_ws cn_1 ft_1 7, w ∈ gw := by decide +kernel
theorem in_2 : ∀ w ∈ u_ws cn_2 ft_2 2, w ∈ gw := by decide +kernel
theorem in_3 : ∀ w ∈ u_ws cn_3 ft_3 3, w ∈ gw := by decide +kernel
theorem in_4 : ∀ w ∈ u_ws cn_4 ft_4 3, w ∈ gw := by decide +kernel
theorem in_5 : ∀ w ∈ u_ws cn_5 ft_5 11, w ∈ gw := by decide +kernel
theorem in_6 : ∀ w ∈ u_ws cn_6 ft_6 5, w ∈ gw := by decide +kernel
theorem in_7 : ∀ w ∈ u_ws cn_7 ft_7 12, w ∈ gw := by decide +kernel
theorem in_8 : ∀ w ∈ u_ws cn_8 ft_8 3, w ∈ gw := by decide +kernel
theorem in_9 : ∀ w ∈ u_ws cn_9 ft_9 4, w ∈ gw := by decide +kernel
theorem in_10 : ∀ w ∈ u_ws cn_10 ft_10 20, w ∈ gw := by decide +kernel
theorem in_11 : ∀ w ∈ u_ws cn_11 ft_11 56, w ∈ gw := by decide +kernel
def bw : List Cond := lw_tbl.filter (fun w => !goodWord w)
end
section
/-! ===== the abstract heap: int fields, int arrays, long arrays, reference arrays, lengths of what is made later, size ===== -/
abbrev Hp : Type := (Nat → Nat → Int32) × (Nat → Nat → Int32) × (Nat → Nat → Int64) × (Nat → Nat → Option Nat) × (Nat → Nat) × Nat
def fI (h : Hp) (a k : Nat) : Int32 := h.1 a k
def aI (h : Hp) (a i : Nat) : Int32 := h.2.1 a i
def aL (h : Hp) (a i : Nat) : Int64 := h.2.2.1 a i
def aO (h : Hp) (a i : Nat) : Option Nat := h.2.2.2.1 a i
def ln (h : Hp) (a : Nat) : Nat := h.2.2.2.2.1 a
def sz (h : Hp) : Nat := h.2.2.2.2.2
def up2 {α : Type} (f : Nat → Nat → α) (a k : Nat) (x : α) : Nat → Nat → α := fun b j => if b = a then (if j = k then x else f b j) else f b j
def sF (h : Hp) (a k : Nat) (x : Int32) : Hp := (up2 h.1 a k x, h.2)
def sA (h : Hp) (a k : Nat) (x : Int32) : Hp := (h.1, up2 h.2.1 a k x, h.2.2)
def sL (h : Hp) (a k : Nat) (x : Int64) : Hp := (h.1, h.2.1, up2 h.2.2.1 a k x, h.2.2.2)
def sO (h : Hp) (a k : Nat) (x : Option Nat) : Hp := (h.1, h.2.1, h.2.2.1, up2 h.2.2.2.1 a k x, h.2.2.2.2)
def cpA (h : Hp) (sa sp da dp n : Nat) : Hp := (h.1, (fun b j => if b = da then (if dp ≤ j ∧ j < dp + n then h.2.1 sa (sp + (j - dp)) else h.2.1 b j) else h.2.1 b j), h.2.2)
/-- a number as an index of n places -/
def inb (i : Int32) (n : Nat) : Option Nat := if 0 ≤ i.toInt ∧ i.toInt < (n : Int) then some i.toNatClampNeg else none
def b2i (b : Bool) : Int32 := if b = true then 1 else 0
def i2b (x : Int32) : Option Bool := if x = 0 then some false else if x = 1 then some true else none
theorem inb_vp {i : Int32} {n j : Nat} (h : inb i n = some j) : vp_in i n ∧ i.toNatClampNeg = j := by
  unfold inb at h
  split at h
  · rename_i c
    exact ⟨vp_in_iff.mpr c, Option.some.inj h⟩
  · cases h
theorem i2b_eq {x : Int32} {b : Bool} (h : i2b x = some b) : x = b2i b := by
  unfold i2b at h
  split at h
  · rename_i c; cases h; rw [c]; rfl
  · split at h
    · rename_i c; cases h; rw [c]; rfl
    · cases h
/-- a loop: the body goes on with a state, or ends it -/
def lp {σ ε : Type} (b : σ → Option (σ ⊕ ε)) : Nat → σ → Option ε
  | 0, _ => none
  | n + 1, s => match b s with
    | none => none
    | some (.inl s') => lp b n s'
    | some (.inr e) => some e
theorem lp_ind {σ ε : Type} {b : σ → Option (σ ⊕ ε)} {P : σ → Prop} {K : ε → Prop} (hs : ∀ s q, b s = some q → (∀ s', q = .inl s' → P s') → (∀ e, q = .inr e → K e) → P s) : ∀ (n : Nat) (s : σ) (e : ε), lp b n s = some e → K e → P s
  | 0, s, e, h, _ => by cases h
  | n + 1, s, e, h, k => by
    unfold lp at h
    cases hb : b s with
    | none => rw [hb] at h; cases h
    | some q =>
      rw [hb] at h
      cases q with
      | inl s' => exact hs s _ hb (fun t ht => by cases ht; exact lp_ind hs n s' e h k) (fun e' he => by cases he)
      | inr e' => exact hs s _ hb (fun t ht => by cases ht) (fun e2 he => by cases he; cases h; exact k)
theorem bd {α β : Type} {o : Option α} {f : α → Option β} {r : β} (h : o.bind f = some r) : ∃ a, o = some a ∧ f a = some r := by
  cases o with
  | none => cases h
  | some a => exact ⟨a, rfl, h⟩
def FU : Nat := 20000
/-! ===== kinds of the static cells ===== -/
abbrev Kd : Type := (Nat × List (Option Nat)) ⊕ (Nat × Option Nat)
def kds : List Kd := [
  .inl (10, [some 32, some 1, some 2, some 3, some 4, some 56, some 10, some 59, some 60, some 68, some 12, some 17, some 22, some 23, some 24, some 25, none, none, none, none]),
  .inr (5, some 2),
  .inr (2, some 2),
  .inr (0, some 400),
  .inl (5, [some 5, some 6, some 7, some 8, some 9, none, none, none, none, none, none]),
  .inr (0, some 401),
  .inr (0, some 401),
  .inr (0, some 401),
  .inr (0, some 800),
  .inr (0, some 72),
  .inl (4, [some 11, none, none]),
  .inr (0, some 416),
  .inl (6, [none, some 13, some 14, some 15, some 16]),
  .inr (0, some 18),
  .inr (0, some 6),
  .inr (0, some 6),
  .inr (0, some 3),
  .inl (6, [none, some 18, some 19, some 20, some 21]),
  .inr (0, some 18),
  .inr (0, some 6),
  .inr (0, some 6),
  .inr (0, some 3),
  .inr (0, some 9),
  .inr (0, some 9),
  .inr (3, some 20),
  .inr (0, some 7),
  .inl (9, [some 27, some 28, none, none]),
  .inr (0, none),
  .inr (0, none),
  .inl (2, [some 30, some 31]),
  .inr (0, some 24),
  .inr (0, some 64),
  .inl (1, [some 33, some 26, some 38, none, none, some 39, none]),
  .inl (6, [none, some 34, some 35, some 36, some 37]),
  .inr (0, some 18),
  .inr (0, some 6),
  .inr (0, some 6),
  .inr (0, some 3),
  .inr (4, some 6),
  .inr (0, some 18),
  .inl (1, [some 41, some 26, some 46, none, none, some 47, none]),
  .inl (6, [none, some 42, some 43, some 44, some 45]),
  .inr (0, some 18),
  .inr (0, some 6),
  .inr (0, some 6),
  .inr (0, some 3),
  .inr (4, some 6),
  .inr (0, some 18),
  .inl (1, [some 49, some 26, some 54, none, none, some 55, none]),
  .inl (6, [none, some 50, some 51, some 52, some 53]),
  .inr (0, some 18),
  .inr (0, some 6),
  .inr (0, some 6),
  .inr (0, some 3),
  .inr (4, some 6),
  .inr (0, some 18),
  .inl (8, [some 29, some 57, some 58]),
  .inr (0, some 18),
  .inr (0, some 9),
  .inl (3, [some 32, some 10, some 56]),
  .inl (0, [some 59, some 29, some 61, some 66, none, none, none]),
  .inl (6, [none, some 62, some 63, some 64, some 65]),
  .inr (0, some 18),
  .inr (0, some 6),
  .inr (0, some 6),
  .inr (0, some 3),
  .inl (4, [some 67, none, none]),
  .inr (0, some 416),
  .inl (7, [some 56, some 69, some 74, some 75, some 76, some 77, some 78, some 79, some 80, none, none, none]),
  .inl (6, [none, some 70, some 71, some 72, some 73]),
  .inr (0, some 18),
  .inr (0, some 6),
  .inr (0, some 6),
  .inr (0, some 3),
  .inr (0, some 720),
  .inr (0, some 7200),
  .inr (0, some 720),
  .inr (0, some 720),
  .inr (0, some 6),
  .inr (0, some 6),
  .inr (0, some 3),
  .inl (11, [none, some 82, some 83, some 84, some 85, some 86, none, some 87, none, none, none, some 88, some 89, none, none, some 90, some 91, some 92, none, none, none, none, none, none, none, none, some 93, none, none, some 94, some 95, some 96, none, some 97, some 98, none, none, some 99, some 100, some 101, some 102, some 103, some 104, some 105, some 106, some 107, none, none, none, none, none, none, some 108, some 109, none, none]),
  .inr (0, some 7),
  .inr (0, some 5662),
  .inr (0, some 11324),
  .inr (2, some 2),
  .inr (0, some 50),
  .inr (1, some 144),
  .inr (1, some 400),
  .inr (0, some 5),
  .inr (0, some 401),
  .inr (0, some 401),
  .inr (0, some 401),
  .inr (0, some 8),
  .inr (0, some 18),
  .inr (0, some 416),
  .inr (0, some 416),
  .inr (0, some 6),
  .inr (0, some 6),
  .inr (0, some 720),
  .inr (0, some 720),
  .inr (0, some 720),
  .inr (2, some 720),
  .inr (0, some 4320),
  .inr (0, some 3),
  .inr (0, some 6),
  .inr (0, some 6),
  .inr (3, some 21),
  .inr (3, some 2),
  .inr (0, some 25)]
def kd (a : Nat) : Kd := if a < 110 then kds.getD a (.inr (0, none)) else if (a - 110) % 3 = 0 then .inl (9, [some (a + 1), some (a + 2), none, none]) else .inr (0, none)
/-! ===== what the real heap holds ===== -/
/-- numbers of classes and slots; array classes; where the heap ended; addresses of what was there before; the script -/
abbrev Ex : Type := va_G × (Nat → ClassId) × Nat × (Nat → Nat) × Nat × (Nat → Int32)
def eB (E : Ex) : Nat := E.2.2.1
def eA (E : Ex) : Nat → Prop := fun q => E.2.2.1 ≤ q
def ra (E : Ex) (a : Nat) : Nat := if a < 1000000 then E.2.2.1 + a else E.2.2.2.1 (a - 1000000)
def cv (E : Ex) : Value → Value
  | .ref a => .ref (ra E a)
  | v => v
def cF (E : Ex) (g : Nat → Int32) : Nat → List (Option Nat) → List Value
  | _, [] => []
  | k, none :: l => .int (g k) :: cF E g (k + 1) l
  | k, some b :: l => .ref (ra E b) :: cF E g (k + 1) l
def cE (E : Ex) (h : Hp) (a : Nat) : va_E := match kd a with
  | .inl (ci, fs) => .inr (ci, cF E (fI h a) 0 fs)
  | .inr (t, on) => .inl (E.2.1 t, on.getD (ln h a), if t < 3 then .inl (aI h a) else if t = 3 then .inr (.inl (aL h a)) else .inr (.inr (.inr (.inr (fun i => (aO h a i).map (ra E))))))
def wsE (E : Ex) (h : Hp) : va_W := (List.range (sz h)).map (fun a => (E.2.2.1 + a, cE E h a))
def tys (E : Ex) : List (ClassId × FieldType) := [(E.2.1 0, .int), (E.2.1 1, .byte), (E.2.1 2, .boolean), (E.2.1 3, .long), (E.2.1 4, .object "SteamNations$Text"), (E.2.1 5, .object "SteamNations$House")]
def Rl (E : Ex) (h : Hp) (H : Heap) : Prop := H.size = E.2.2.1 + sz h ∧ 110 ≤ sz h ∧ sz h < 1000000 ∧ va_P E.1 cls (wsE E h) H
theorem ws_at {E : Ex} {h : Hp} {a : Nat} (ha : a < sz h) : (wsE E h)[a]? = some (E.2.2.1 + a, cE E h a) := by
  unfold wsE
  rw [List.getElem?_map, List.getElem?_range ha]
  rfl
theorem ra_lt {E : Ex} {h : Hp} {a : Nat} (ha : a < sz h) (hz : sz h < 1000000) : ra E a = E.2.2.1 + a := by
  unfold ra
  rw [if_pos (by omega)]
theorem ws_D (E : Ex) (h : Hp) : va_D (eA E) (wsE E h) := by
  have key : ∀ (k : Nat) (q : Nat × va_E), (wsE E h)[k]? = some q → q.1 = E.2.2.1 + k := by
    intro k q hk
    unfold wsE at hk
    rw [List.getElem?_map] at hk
    cases hr : (List.range (sz h))[k]? with
    | none => rw [hr] at hk; cases hk
    | some j =>
      rw [hr] at hk
      have hj : j = k := by
        obtain ⟨h1, h2⟩ := List.getElem?_eq_some_iff.mp hr
        simpa using h2.symm
      subst hj
      cases hk
      rfl
  refine ⟨fun i j p q hi hj hpq => ?_, fun k q hk => ?_⟩
  · have h1 := key i p hi
    have h2 := key j q hj
    omega
  · rw [key k q hk]
    exact Nat.le_add_right _ _
/-- one cell changed -/
theorem ws_set {E : Ex} {h h' : Hp} {a : Nat} {q : Nat × va_E} (hz : sz h' = sz h) (hq : q = (E.2.2.1 + a, cE E h' a)) (hne : ∀ b, b ≠ a → cE E h' b = cE E h b) : (wsE E h).set a q = wsE E h' := by
  apply List.ext_getElem?
  intro k
  by_cases hka : k = a
  · subst hka
    by_cases hl : k < sz h
    · rw [ws_at (h := h') (by omega), List.getElem?_set_self (by unfold wsE; simpa using hl), hq]
    · have h1 : (wsE E h')[k]? = none := by simp [wsE]; omega
      have h2 : ((wsE E h).set k q)[k]? = none := by simp [wsE]; omega
      rw [h1, h2]
  · rw [List.getElem?_set_ne (Ne.symm hka)]
    by_cases hl : k < sz h
    · rw [ws_at hl, ws_at (h := h') (by omega), hne k hka]
    · have h1 : (wsE E h')[k]? = none := by simp [wsE]; omega
      have h2 : (wsE E h)[k]? = none := by simp [wsE]; omega
      rw [h1, h2]
theorem cF_get {E : Ex} {g : Nat → Int32} : ∀ (fs : List (Option Nat)) (k j : Nat), (fs[j]? = some none → (cF E g k fs)[j]? = some (.int (g (k + j)))) ∧ (∀ b, fs[j]? = some (some b) → (cF E g k fs)[j]? = some (.ref (ra E b)))
  | [], k, j => ⟨fun h => by simp at h, fun b h => by simp at h⟩
  | none :: l, k, 0 => ⟨fun _ => rfl, fun b h => (by cases h)⟩
  | some b :: l, k, 0 => ⟨fun h => (by cases h), fun b h => (by cases h; rfl)⟩
  | none :: l, k, j + 1 => by
    have h := cF_get (E := E) (g := g) l (k + 1) j
    rw [show k + 1 + j = k + (j + 1) by omega] at h
    exact h
  | some b :: l, k, j + 1 => by
    have h := cF_get (E := E) (g := g) l (k + 1) j
    rw [show k + 1 + j = k + (j + 1) by omega] at h
    exact h
theorem cF_len {E : Ex} {g : Nat → Int32} : ∀ (fs : List (Option Nat)) (k : Nat), (cF E g k fs).length = fs.length
  | [], _ => rfl
  | none :: l, k => by simp only [cF, List.length_cons, cF_len l]
  | some b :: l, k => by simp only [cF, List.length_cons, cF_len l]
theorem cF_same {E : Ex} {g g' : Nat → Int32} : ∀ (fs : List (Option Nat)) (k : Nat), (∀ j, k ≤ j → g' j = g j) → cF E g' k fs = cF E g k fs
  | [], _, _ => rfl
  | none :: l, k, h => by
    simp only [cF]
    rw [h k (Nat.le_refl _), cF_same l (k + 1) (fun j hj => h j (by omega))]
  | some b :: l, k, h => by
    simp only [cF]
    rw [cF_same l (k + 1) (fun j hj => h j (by omega))]
theorem cF_set {E : Ex} {g : Nat → Int32} {x : Int32} : ∀ (fs : List (Option Nat)) (k j : Nat), fs[j]? = some none → (cF E g k fs).set j (.int x) = cF E (upd g (k + j) x) k fs
  | [], k, j, h => by simp at h
  | none :: l, k, 0, _ => by
    simp only [cF, List.set_cons_zero, Nat.add_zero]
    rw [cF_same (g := g) (g' := upd g k x) l (k + 1) (fun j hj => by unfold upd; rw [if_neg (by omega)])]
    simp [upd]
  | some b :: l, k, 0, h => by cases h
  | none :: l, k, j + 1, h => by
    have h2 := cF_set (E := E) (g := g) (x := x) l (k + 1) j h
    rw [show k + 1 + j = k + (j + 1) by omega] at h2
    simp only [cF, List.set_cons_succ]
    rw [h2]
    congr 2
    unfold upd
    rw [if_neg (by omega)]
  | some b :: l, k, j + 1, h => by
    have h2 := cF_set (E := E) (g := g) (x := x) l (k + 1) j h
    rw [show k + 1 + j = k + (j + 1) by omega] at h2
    simp only [cF, List.set_cons_succ]
    rw [h2]
end
section
def wrd : String := "sitter other tier nation much wish minute mood done latest inside pleased is passes keeps leaves seat out swap pass at with times if or and not "
def wrdB : List Int32 := [115, 105, 116, 116, 101, 114, 32, 111, 116, 104, 101, 114, 32, 116, 105, 101, 114, 32, 110, 97, 116, 105, 111, 110, 32, 109, 117, 99, 104, 32, 119, 105, 115, 104, 32, 109, 105, 110, 117, 116, 101, 32, 109, 111, 111, 100, 32, 100, 111, 110, 101, 32, 108, 97, 116, 101, 115, 116, 32, 105, 110, 115, 105, 100, 101, 32, 112, 108, 101, 97, 115, 101, 100, 32, 105, 115, 32, 112, 97, 115, 115, 101, 115, 32, 107, 101, 101, 112, 115, 32, 108, 101, 97, 118, 101, 115, 32, 115, 101, 97, 116, 32, 111, 117, 116, 32, 115, 119, 97, 112, 32, 112, 97, 115, 115, 32, 97, 116, 32, 119, 105, 116, 104, 32, 116, 105, 109, 101, 115, 32, 105, 102, 32, 111, 114, 32, 97, 110, 100, 32, 110, 111, 116, 32]
def bsT : List Int32 := [1, 3, -1, -1, 0, 2, 4, -1, 1, 5, -1, -1, 0, 4, 6, -1, 1, 3, 5, 7, 2, 4, 8, -1, 3, 7, -1, -1, 4, 6, 8, -1, 5, 7, -1, -1]
def moT : List Int32 := [999, 10, 9]
/-- accesses among nest mates -/
def nwF : List (String × Nat × String × String × String × String) := [("SteamNations$Room", 21, "SteamNations", "FIRST_OF_TERM", "[I", "SteamNations"), ("SteamNations$Steam", 96, "SteamNations", "BESIDE", "[I", "SteamNations")]
def nwM : List (String × Nat × MethodName × String) := [("SteamNations", 25, ⟨"SteamNations$Reader", "<init>", "()V"⟩, "SteamNations"), ("SteamNations", 32, ⟨"SteamNations$Past", "<init>", "()V"⟩, "SteamNations"), ("SteamNations", 71, ⟨"SteamNations$Machine", "<init>", "()V"⟩, "SteamNations"), ("SteamNations$Errands", 20, ⟨"SteamNations$Past", "<init>", "()V"⟩, "SteamNations"), ("SteamNations$Room", 41, ⟨"SteamNations", "oneIf", "(Z)I"⟩, "SteamNations"), ("SteamNations$Seatings", 81, ⟨"SteamNations", "oneIf", "(Z)I"⟩, "SteamNations"), ("SteamNations$Seatings", 171, ⟨"SteamNations", "areBeside", "(II)Z"⟩, "SteamNations")]
/-- what stays so of a state: tables, statics, the script, the text of words -/
def Ok (E : Ex) (U : State) : Prop :=
  va_K E.1 cls (tys E) U ∧ (∀ q ∈ nwF, va_Nw (.fieldLinkNest q.1 q.2.1 q.2.2.1 q.2.2.2.1 q.2.2.2.2.1 q.2.2.2.2.2) U) ∧ (∀ q ∈ nwM, va_Nw (.methodLinkNest q.1 q.2.1 q.2.2.1 q.2.2.2) U) ∧
  va_Z "SteamNations" "BESIDE" "[I" (.ref (E.2.2.2.1 0)) (eA E) U U.heap ∧ va_T .int (E.2.2.2.1 0) 36 (fun j => .int (bsT.getD j 0)) (eA E) U U.heap ∧
  va_Z "SteamNations" "MOST_OF_TERM" "[I" (.ref (E.2.2.2.1 1)) (eA E) U U.heap ∧ va_T .int (E.2.2.2.1 1) 3 (fun j => .int (moT.getD j 0)) (eA E) U U.heap ∧
  va_T .int (E.2.2.2.1 2) E.2.2.2.2.1 (fun j => .int (E.2.2.2.2.2 j)) (eA E) U U.heap ∧
  vk_R "SteamNations$Reader" 104 wrd (E.2.2.2.1 3) U ∧ vk_S 1 [144] [wrdB] (fun _ => E.2.2.2.1 3) (fun _ => E.2.2.2.1 4) (eA E) U U.heap ∧
  va_Z "java/lang/String" "COMPACT_STRINGS" "Z" (.int 1) (eA E) U U.heap ∧ va_Zq "jdk/internal/util/Preconditions" "SIOOBE_FORMATTER" "Ljava/util/function/BiFunction;" (eA E) U U.heap
theorem Ok.mv {E : Ex} {s U : State} (h : Ok E s) (hW : s.WarmedH U.vm) (hq : ∀ a : Nat, a < s.heap.size → ¬ eA E a → U.heap[a]? = s.heap[a]?) : Ok E U := by
  obtain ⟨h1, h2, h3, h4, h5, h6, h7, h8, h9, h10, h11, h12⟩ := h
  exact ⟨h1.moved hW.alike, fun q hm => (h2 q hm).warmF hW, fun q hm => (h3 q hm).warmM hW, (h4.kept hq).moved hW.alike, (h5.kept hq).moved hW.alike, (h6.kept hq).moved hW.alike, (h7.kept hq).moved hW.alike, (h8.kept hq).moved hW.alike, h9.warm hW, (h10.kept hq).moved hW.alike, (h11.kept hq).moved hW.alike, (h12.kept hq).moved hW.alike⟩
/-- machine, launch, environment, room, start, method, arguments, frames below, method's data, code, what is to be reached, the world's numbers -/
abbrev Xt : Type := Program × Launch × Env × Room × State × MethodId × Array Value × List Frame × Method × Code × (State → Prop) × Ex
def cl2 (E : Ex) (lv : List (Nat × Value)) : List (Nat × Value) := lv.map (fun q => (q.1, cv E q.2))
def G (X : Xt) (h : Hp) (k n pc : Nat) (lv : List (Nat × Value)) (st : List Value) : Prop := match X with
  | (p, l, e, R, s, m, args, below, meth, c, Q, E) => ∀ (H : Heap) (locs : List Loc) (ls : Array Slot), Rl E h H → va_S (eA E) s.heap H locs → lv_has ls c.maxLocals (cl2 E lv) → W p l e R s m args below meth c H locs k n Q (F0 m pc ls (st.map (cv E)))
def Cx (X : Xt) (own : String) (cc : ByteArray) (nL : Nat) (rt : Option FieldType) (D mc ms : Nat) : Prop := match X with
  | (p, l, e, R, s, m, args, below, meth, c, Q, E) => p.tables.exec = Jvm.exec ∧ c.code = cc ∧ c.maxLocals = nL ∧ s.vm.findClass own = some m.cls ∧ (∀ w ∈ gw, w.before args s = true) ∧ Ok E s ∧ meth.locks = false ∧ meth.sig.returnType = rt ∧ D ≤ R.frames ∧ 60 * D ≤ R.locals ∧ mc ≤ R.cells ∧ ms ≤ R.slots ∧ E.2.2.1 ≤ s.heap.size ∧ (own = own)
def rQ (E : Ex) (r : Option Value) (h' : Hp) : Array Value → State → Outcome → State → Prop := fun _ st oc t => oc = .returned (r.map (cv E)) ∧ Rl E h' t.heap ∧ va_F (eA E) st t
def EndQ (X : Xt) (mc ms : Nat) (r : Option Value) (h' : Hp) : Prop := match X with
  | (p, l, e, R, s, m, args, below, meth, c, Q, E) => Q = MQ below (rQ E r h') args s mc ms (eA E)
def rmH (D mc ms : Nat) : Room := { frames := D, cells := mc, slots := ms, locals := 60 * D }
def aPc (E : Ex) (av : List Value) (h : Hp) : Array Value → State → Prop := va_Pc (av.map (cv E)) (fun U => Rl E h U.heap ∧ Ok E U ∧ E.2.2.1 ≤ U.heap.size)
def MetA (y : MethodName) (cc : ByteArray) (mL : Nat) (rt : Option FieldType) (D mc ms : Nat) (av : List Value) (h : Hp) (r : Option Value) (h' : Hp) : Prop :=
  ∀ (l : Launch) (E : Ex), Met l y (.code y cc mL rt :: gw) (rmH D mc ms) (aPc E av h) (rQ E r h') mc ms (eA E)
theorem aPc_blind (E : Ex) (av : List Value) (h : Hp) : FrameBlind (aPc E av h) := by
  intro a U g mk q
  obtain ⟨h1, h2, h3, h4⟩ := q
  refine ⟨h1, h2, ?_, h4⟩
  exact h3.mv (U := U.calling g mk a) (State.WarmedH.refl U) (fun _ _ _ => rfl)
theorem cv_cat (E : Ex) (v : Value) : (cv E v).category = v.category := by cases v <;> rfl
theorem cl2_args (E : Ex) : ∀ (i : Nat) (av : List Value), lv_args i (av.map (cv E)) = cl2 E (lv_args i av)
  | _, [] => rfl
  | i, v :: l => by
    simp only [List.map_cons, lv_args, cl2, cv_cat]
    rw [cl2_args E _ l]
    rfl
theorem lg_len (E : Ex) (av : List Value) : (lg_sl (av.map (cv E))).length = (lg_sl av).length := by
  induction av with
  | nil => rfl
  | cons v l ih =>
    unfold lg_sl at ih ⊢
    simp only [List.map_cons, List.flatMap_cons, List.length_append, cv_cat, ih]
    congr 1
    split <;> rfl
theorem metA_of {y : MethodName} {cc : ByteArray} {mL : Nat} {rt : Option FieldType} {D mc ms : Nat} {av : List Value} {h h' : Hp} {r : Option Value} (hy : plainName y.cls = true) (hn : (lg_sl av).length ≤ mL)
    (body : ∀ X, Cx X y.cls cc mL rt D mc ms → EndQ X mc ms r h' → G X h 0 0 0 (lv_args 0 av) []) : MetA y cc mL rt D mc ms av h r h' := by
  intro l E
  refine Met.ofW (cc := cc) (maxL := mL) (ret := rt) hy rfl ?_
  intro p e s m args below meth c s₁ B hml hv
  obtain ⟨rfl, hR, hO, hsz⟩ := hv
  have hts := atoms_spec (ws := .code y cc mL rt :: gw) B.pre
  have hown : s.vm.findClass y.cls = some m.cls := findClass_of_methodNamed B.named
  have hl := lv_entry (av.map (cv E)) (n := mL) (by rw [lg_len]; exact hn)
  rw [lg_entry_eq]
  rw [cl2_args, ← hml] at hl
  rw [← hml]
  exact body (p, l, e, rmH D mc ms, s, m, (av.map (cv E)).toArray, below, meth, c, MQ below (rQ E r h') (av.map (cv E)).toArray s mc ms (eA E), E)
    ⟨B.exec, B.bytes, hml, hown, fun w hw => hts w (List.mem_cons_of_mem _ hw), hO, B.notSynchronized, B.returns, Nat.le_refl _, Nat.le_refl _, Nat.le_refl _, Nat.le_refl _, hsz, rfl⟩ rfl s.heap [] _ hR va_S.rf hl
/-! ===== locals ===== -/
def inl2 (q : Nat × Value) : List (Nat × Value) → List (Nat × Value)
  | [] => [q]
  | p :: l => if q.1 < p.1 then q :: p :: l else p :: inl2 q l
def stl (lv : List (Nat × Value)) (i : Nat) (v : Value) : List (Nat × Value) := inl2 (i, v) (lv.filter (fun q => !(q.1 == i) && (!(v.category == 2 && q.1 == i + 1) && !(q.1 + 1 == i && q.2.category == 2))))
theorem inl2_mem {q p : Nat × Value} : ∀ {l : List (Nat × Value)}, p ∈ inl2 q l → p = q ∨ p ∈ l
  | [], h => by simp [inl2] at h; exact Or.inl h
  | x :: l, h => by
    unfold inl2 at h
    split at h
    · rcases List.mem_cons.mp h with h | h
      · exact Or.inl h
      · exact Or.inr h
    · rcases List.mem_cons.mp h with h | h
      · exact Or.inr (h ▸ List.mem_cons_self)
      · rcases inl2_mem h with h | h
        · exact Or.inl h
        · exact Or.inr (List.mem_cons_of_mem _ h)
theorem lv_mono {ls : Array Slot} {nL : Nat} {l l' : List (Nat × Value)} (h : lv_has ls nL l) (hs : ∀ q ∈ l', q ∈ l) : lv_has ls nL l' := ⟨h.1, h.2.1, fun q hq => h.2.2 q (hs q hq)⟩
theorem stl_1 {E : Ex} {ls : Array Slot} {nL i : Nat} {lv : List (Nat × Value)} {v : Value} (hc : v.category = 1) (h : lv_has ls nL ((i, cv E v) :: (cl2 E lv).filter (fun q => !(q.1 == i) && !(q.1 + 1 == i && q.2.category == 2)))) : lv_has ls nL (cl2 E (stl lv i v)) := by
  refine lv_mono h (fun q hq => ?_)
  obtain ⟨q0, h0, rfl⟩ := List.mem_map.mp hq
  rcases inl2_mem h0 with rfl | h1
  · exact List.mem_cons_self
  · obtain ⟨h2, h3⟩ := List.mem_filter.mp h1
    refine List.mem_cons_of_mem _ (List.mem_filter.mpr ⟨List.mem_map.mpr ⟨q0, h2, rfl⟩, ?_⟩)
    simp only [cv_cat]
    simp only [Bool.and_eq_true] at h3 ⊢
    exact ⟨h3.1, h3.2.2⟩
theorem stl_2 {E : Ex} {ls : Array Slot} {nL i : Nat} {lv : List (Nat × Value)} {v : Value} (hc : v.category = 2) (h : lv_has ls nL ((i, cv E v) :: (cl2 E lv).filter (fun q => !(q.1 == i) && (!(q.1 == i + 1) && !(q.1 + 1 == i && q.2.category == 2))))) : lv_has ls nL (cl2 E (stl lv i v)) := by
  refine lv_mono h (fun q hq => ?_)
  obtain ⟨q0, h0, rfl⟩ := List.mem_map.mp hq
  rcases inl2_mem h0 with rfl | h1
  · exact List.mem_cons_self
  · obtain ⟨h2, h3⟩ := List.mem_filter.mp h1
    refine List.mem_cons_of_mem _ (List.mem_filter.mpr ⟨List.mem_map.mpr ⟨q0, h2, rfl⟩, ?_⟩)
    simp only [cv_cat]
    simp only [Bool.and_eq_true] at h3 ⊢
    refine ⟨h3.1, ?_, h3.2.2⟩
    have h4 := h3.2.1
    rw [hc] at h4
    simpa using h4
theorem cl2_at {E : Ex} {ls : Array Slot} {nL : Nat} {lv : List (Nat × Value)} (h : lv_has ls nL (cl2 E lv)) (k : Nat) {i : Nat} {v : Value} (hk : lv[k]? = some (i, v)) : ls[i]? = some (.val (cv E v)) :=
  h.2.2 (i, cv E v) (List.mem_map.mpr ⟨(i, v), List.mem_of_getElem? hk, rfl⟩)
end
section
section GR
variable {X : Xt} {own : String} {cc : ByteArray} {nL : Nat} {rt : Option FieldType} {D mc ms : Nat} {h : Hp} {k n pc : Nat} {lv : List (Nat × Value)} {st : List Value}
theorem g_iconst {i : Int} {v : Int32} (C : Cx X own cc nL rt D mc ms) (hd : decode cc pc = .ok (.iconst i, 1)) (hv : Int32.ofInt i = v) (next : G X h k n (pc + 1) lv (.int v :: st)) : G X h k n pc lv (st) := by
  obtain ⟨p, l, e, R, s, m, args, below, meth, c, Q, E⟩ := X
  obtain ⟨hx, hb, hml, hown, hts, hO, hlk, hrt, hfr, hlo, hce, hsl, hbs, -⟩ := C
  intro H locs ls hR hS hl
  exact lv_iconst hx hb hd hv (next H locs ls hR hS hl)
theorem g_bipush {i : Int} {v : Int32} (C : Cx X own cc nL rt D mc ms) (hd : decode cc pc = .ok (.bipush i, 2)) (hv : (Int8.ofInt i).toInt32 = v) (next : G X h k n (pc + 2) lv (.int v :: st)) : G X h k n pc lv (st) := by
  obtain ⟨p, l, e, R, s, m, args, below, meth, c, Q, E⟩ := X
  obtain ⟨hx, hb, hml, hown, hts, hO, hlk, hrt, hfr, hlo, hce, hsl, hbs, -⟩ := C
  intro H locs ls hR hS hl
  exact lv_bipush hx hb hd hv (next H locs ls hR hS hl)
theorem g_sipush {i : Int} {v : Int32} (C : Cx X own cc nL rt D mc ms) (hd : decode cc pc = .ok (.sipush i, 3)) (hv : (Int16.ofInt i).toInt32 = v) (next : G X h k n (pc + 3) lv (.int v :: st)) : G X h k n pc lv (st) := by
  obtain ⟨p, l, e, R, s, m, args, below, meth, c, Q, E⟩ := X
  obtain ⟨hx, hb, hml, hown, hts, hO, hlk, hrt, hfr, hlo, hce, hsl, hbs, -⟩ := C
  intro H locs ls hR hS hl
  exact lv_sipush hx hb hd hv (next H locs ls hR hS hl)
theorem g_lconst {i : Fin 2} {v : Int64} (C : Cx X own cc nL rt D mc ms) (hd : decode cc pc = .ok (.lconst i, 1)) (hv : Int64.ofNat (i : Nat) = v) (next : G X h k n (pc + 1) lv (.long v :: st)) : G X h k n pc lv (st) := by
  obtain ⟨p, l, e, R, s, m, args, below, meth, c, Q, E⟩ := X
  obtain ⟨hx, hb, hml, hown, hts, hO, hlk, hrt, hfr, hlo, hce, hsl, hbs, -⟩ := C
  intro H locs ls hR hS hl
  exact lv_lconst hx hb hd hv (next H locs ls hR hS hl)
theorem g_null  (C : Cx X own cc nL rt D mc ms) (hd : decode cc pc = .ok (.aconst_null, 1)) (next : G X h k n (pc + 1) lv (.null :: st)) : G X h k n pc lv (st) := by
  obtain ⟨p, l, e, R, s, m, args, below, meth, c, Q, E⟩ := X
  obtain ⟨hx, hb, hml, hown, hts, hO, hlk, hrt, hfr, hlo, hce, hsl, hbs, -⟩ := C
  intro H locs ls hR hS hl
  exact lv_null hx hb hd (next H locs ls hR hS hl)
theorem g_ldc {i : Nat} {v : Int32} (C : Cx X own cc nL rt D mc ms) (hd : decode cc pc = .ok (.ldc i, 2)) (hc : Cond.constant own i v ∈ gw) (next : G X h k n (pc + 2) lv (.int v :: st)) : G X h k n pc lv (st) := by
  obtain ⟨p, l, e, R, s, m, args, below, meth, c, Q, E⟩ := X
  obtain ⟨hx, hb, hml, hown, hts, hO, hlk, hrt, hfr, hlo, hce, hsl, hbs, -⟩ := C
  intro H locs ls hR hS hl
  exact lv_ldc hx hb hown (hts _ hc) hd (next H locs ls hR hS hl)
theorem g_ldcw {i : Nat} {v : Int32} (C : Cx X own cc nL rt D mc ms) (hd : decode cc pc = .ok (.ldc_w i, 3)) (hc : Cond.constant own i v ∈ gw) (next : G X h k n (pc + 3) lv (.int v :: st)) : G X h k n pc lv (st) := by
  obtain ⟨p, l, e, R, s, m, args, below, meth, c, Q, E⟩ := X
  obtain ⟨hx, hb, hml, hown, hts, hO, hlk, hrt, hfr, hlo, hce, hsl, hbs, -⟩ := C
  intro H locs ls hR hS hl
  exact lv_ldcw hx hb hown (hts _ hc) hd (next H locs ls hR hS hl)
theorem g_ldc2 {i : Nat} {v : Int64} (C : Cx X own cc nL rt D mc ms) (hd : decode cc pc = .ok (.ldc2_w i, 3)) (hc : Cond.constantLong own i v ∈ gw) (next : G X h k n (pc + 3) lv (.long v :: st)) : G X h k n pc lv (st) := by
  obtain ⟨p, l, e, R, s, m, args, below, meth, c, Q, E⟩ := X
  obtain ⟨hx, hb, hml, hown, hts, hO, hlk, hrt, hfr, hlo, hce, hsl, hbs, -⟩ := C
  intro H locs ls hR hS hl
  exact lv_ldc2 hx hb hown (hts _ hc) hd (next H locs ls hR hS hl)
theorem g_iload_n {i : Fin 4} {x : Int32} (C : Cx X own cc nL rt D mc ms) (hd : decode cc pc = .ok (.iload_n i, 1)) (q : Nat) (hq : lv[q]? = some ((i : Nat), .int x)) (next : G X h k n (pc + 1) lv (.int x :: st)) : G X h k n pc lv (st) := by
  obtain ⟨p, l, e, R, s, m, args, below, meth, c, Q, E⟩ := X
  obtain ⟨hx, hb, hml, hown, hts, hO, hlk, hrt, hfr, hlo, hce, hsl, hbs, -⟩ := C
  intro H locs ls hR hS hl
  exact lv_iload_n hx hb hd rfl (cl2_at hl q hq) (next H locs ls hR hS hl)
theorem g_iload {i : Nat} {x : Int32} (C : Cx X own cc nL rt D mc ms) (hd : decode cc pc = .ok (.iload i, 2)) (q : Nat) (hq : lv[q]? = some (i, .int x)) (next : G X h k n (pc + 2) lv (.int x :: st)) : G X h k n pc lv (st) := by
  obtain ⟨p, l, e, R, s, m, args, below, meth, c, Q, E⟩ := X
  obtain ⟨hx, hb, hml, hown, hts, hO, hlk, hrt, hfr, hlo, hce, hsl, hbs, -⟩ := C
  intro H locs ls hR hS hl
  exact lv_iload hx hb hd (cl2_at hl q hq) (next H locs ls hR hS hl)
theorem g_istore_n {i : Fin 4} {x : Int32} {lv' : List (Nat × Value)} (C : Cx X own cc nL rt D mc ms) (hd : decode cc pc = .ok (.istore_n i, 1)) (hn : (i : Nat) < nL) (hv : stl lv (i : Nat) (.int x) = lv') (next : G X h k n (pc + 1) lv' st) : G X h k n pc lv (.int x :: st) := by
  obtain ⟨p, l, e, R, s, m, args, below, meth, c, Q, E⟩ := X
  obtain ⟨hx, hb, hml, hown, hts, hO, hlk, hrt, hfr, hlo, hce, hsl, hbs, -⟩ := C
  intro H locs ls hR hS hl
  subst hv
  exact lv_istore_n hx hb hd rfl hl (by rw [hml]; exact hn) rfl (fun ls hl2 => next H locs ls hR hS (stl_1 (v := .int x) rfl hl2))
theorem g_istore {i : Nat} {x : Int32} {lv' : List (Nat × Value)} (C : Cx X own cc nL rt D mc ms) (hd : decode cc pc = .ok (.istore i, 2)) (hn : i < nL) (hv : stl lv i (.int x) = lv') (next : G X h k n (pc + 2) lv' st) : G X h k n pc lv (.int x :: st) := by
  obtain ⟨p, l, e, R, s, m, args, below, meth, c, Q, E⟩ := X
  obtain ⟨hx, hb, hml, hown, hts, hO, hlk, hrt, hfr, hlo, hce, hsl, hbs, -⟩ := C
  intro H locs ls hR hS hl
  subst hv
  exact lv_istore hx hb hd hl (by rw [hml]; exact hn) rfl (fun ls hl2 => next H locs ls hR hS (stl_1 (v := .int x) rfl hl2))
theorem g_lload_n {i : Fin 4} {x : Int64} (C : Cx X own cc nL rt D mc ms) (hd : decode cc pc = .ok (.lload_n i, 1)) (q : Nat) (hq : lv[q]? = some ((i : Nat), .long x)) (next : G X h k n (pc + 1) lv (.long x :: st)) : G X h k n pc lv (st) := by
  obtain ⟨p, l, e, R, s, m, args, below, meth, c, Q, E⟩ := X
  obtain ⟨hx, hb, hml, hown, hts, hO, hlk, hrt, hfr, hlo, hce, hsl, hbs, -⟩ := C
  intro H locs ls hR hS hl
  exact lv_lload_n hx hb hd rfl (cl2_at hl q hq) (next H locs ls hR hS hl)
theorem g_lload {i : Nat} {x : Int64} (C : Cx X own cc nL rt D mc ms) (hd : decode cc pc = .ok (.lload i, 2)) (q : Nat) (hq : lv[q]? = some (i, .long x)) (next : G X h k n (pc + 2) lv (.long x :: st)) : G X h k n pc lv (st) := by
  obtain ⟨p, l, e, R, s, m, args, below, meth, c, Q, E⟩ := X
  obtain ⟨hx, hb, hml, hown, hts, hO, hlk, hrt, hfr, hlo, hce, hsl, hbs, -⟩ := C
  intro H locs ls hR hS hl
  exact lv_lload hx hb hd (cl2_at hl q hq) (next H locs ls hR hS hl)
theorem g_lstore_n {i : Fin 4} {x : Int64} {lv' : List (Nat × Value)} (C : Cx X own cc nL rt D mc ms) (hd : decode cc pc = .ok (.lstore_n i, 1)) (hn : (i : Nat) + 1 < nL) (hv : stl lv (i : Nat) (.long x) = lv') (next : G X h k n (pc + 1) lv' st) : G X h k n pc lv (.long x :: st) := by
  obtain ⟨p, l, e, R, s, m, args, below, meth, c, Q, E⟩ := X
  obtain ⟨hx, hb, hml, hown, hts, hO, hlk, hrt, hfr, hlo, hce, hsl, hbs, -⟩ := C
  intro H locs ls hR hS hl
  subst hv
  exact lv_lstore_n hx hb hd rfl hl (by rw [hml]; exact hn) rfl (fun ls hl2 => next H locs ls hR hS (stl_2 (v := .long x) rfl hl2))
theorem g_lstore {i : Nat} {x : Int64} {lv' : List (Nat × Value)} (C : Cx X own cc nL rt D mc ms) (hd : decode cc pc = .ok (.lstore i, 2)) (hn : i + 1 < nL) (hv : stl lv i (.long x) = lv') (next : G X h k n (pc + 2) lv' st) : G X h k n pc lv (.long x :: st) := by
  obtain ⟨p, l, e, R, s, m, args, below, meth, c, Q, E⟩ := X
  obtain ⟨hx, hb, hml, hown, hts, hO, hlk, hrt, hfr, hlo, hce, hsl, hbs, -⟩ := C
  intro H locs ls hR hS hl
  subst hv
  exact lv_lstore hx hb hd hl (by rw [hml]; exact hn) rfl (fun ls hl2 => next H locs ls hR hS (stl_2 (v := .long x) rfl hl2))
theorem g_aload_n {i : Fin 4} {x : Nat} (C : Cx X own cc nL rt D mc ms) (hd : decode cc pc = .ok (.aload_n i, 1)) (q : Nat) (hq : lv[q]? = some ((i : Nat), .ref x)) (next : G X h k n (pc + 1) lv (.ref x :: st)) : G X h k n pc lv (st) := by
  obtain ⟨p, l, e, R, s, m, args, below, meth, c, Q, E⟩ := X
  obtain ⟨hx, hb, hml, hown, hts, hO, hlk, hrt, hfr, hlo, hce, hsl, hbs, -⟩ := C
  intro H locs ls hR hS hl
  exact lv_aload_n hx hb hd rfl (cl2_at hl q hq) (next H locs ls hR hS hl)
theorem g_aload {i : Nat} {x : Nat} (C : Cx X own cc nL rt D mc ms) (hd : decode cc pc = .ok (.aload i, 2)) (q : Nat) (hq : lv[q]? = some (i, .ref x)) (next : G X h k n (pc + 2) lv (.ref x :: st)) : G X h k n pc lv (st) := by
  obtain ⟨p, l, e, R, s, m, args, below, meth, c, Q, E⟩ := X
  obtain ⟨hx, hb, hml, hown, hts, hO, hlk, hrt, hfr, hlo, hce, hsl, hbs, -⟩ := C
  intro H locs ls hR hS hl
  exact lv_aload hx hb hd (cl2_at hl q hq) (next H locs ls hR hS hl)
theorem g_astore_n {i : Fin 4} {x : Nat} {lv' : List (Nat × Value)} (C : Cx X own cc nL rt D mc ms) (hd : decode cc pc = .ok (.astore_n i, 1)) (hn : (i : Nat) < nL) (hv : stl lv (i : Nat) (.ref x) = lv') (next : G X h k n (pc + 1) lv' st) : G X h k n pc lv (.ref x :: st) := by
  obtain ⟨p, l, e, R, s, m, args, below, meth, c, Q, E⟩ := X
  obtain ⟨hx, hb, hml, hown, hts, hO, hlk, hrt, hfr, hlo, hce, hsl, hbs, -⟩ := C
  intro H locs ls hR hS hl
  subst hv
  exact lv_astore_n hx hb hd rfl hl (by rw [hml]; exact hn) rfl (fun ls hl2 => next H locs ls hR hS (stl_1 (v := .ref x) rfl hl2))
theorem g_astore {i : Nat} {x : Nat} {lv' : List (Nat × Value)} (C : Cx X own cc nL rt D mc ms) (hd : decode cc pc = .ok (.astore i, 2)) (hn : i < nL) (hv : stl lv i (.ref x) = lv') (next : G X h k n (pc + 2) lv' st) : G X h k n pc lv (.ref x :: st) := by
  obtain ⟨p, l, e, R, s, m, args, below, meth, c, Q, E⟩ := X
  obtain ⟨hx, hb, hml, hown, hts, hO, hlk, hrt, hfr, hlo, hce, hsl, hbs, -⟩ := C
  intro H locs ls hR hS hl
  subst hv
  exact lv_astore hx hb hd hl (by rw [hml]; exact hn) rfl (fun ls hl2 => next H locs ls hR hS (stl_1 (v := .ref x) rfl hl2))
theorem g_iinc {i : Nat} {d : Int} {x v : Int32} {lv' : List (Nat × Value)} (C : Cx X own cc nL rt D mc ms) (hd : decode cc pc = .ok (.iinc i d, 3)) (q : Nat) (hq : lv[q]? = some (i, .int x)) (hv : x + Int32.ofInt d = v) (hn : i < nL) (hl' : stl lv i (.int v) = lv') (next : G X h k n (pc + 3) lv' st) : G X h k n pc lv st := by
  obtain ⟨p, l, e, R, s, m, args, below, meth, c, Q, E⟩ := X
  obtain ⟨hx, hb, hml, hown, hts, hO, hlk, hrt, hfr, hlo, hce, hsl, hbs, -⟩ := C
  intro H locs ls hR hS hl
  subst hl'
  exact lv_iinc hx hb hd hl (k := q) (by unfold cl2; rw [List.getElem?_map, hq]; rfl) hv (by rw [hml]; exact hn) rfl (fun ls hl2 => next H locs ls hR hS (stl_1 (v := .int v) rfl hl2))
theorem g_iadd {x y : Int32} (C : Cx X own cc nL rt D mc ms) (hd : decode cc pc = .ok (.iadd, 1)) (next : G X h k n (pc + 1) lv (.int (x + y) :: st)) : G X h k n pc lv (.int y :: .int x :: st) := by
  obtain ⟨p, l, e, R, s, m, args, below, meth, c, Q, E⟩ := X
  obtain ⟨hx, hb, hml, hown, hts, hO, hlk, hrt, hfr, hlo, hce, hsl, hbs, -⟩ := C
  intro H locs ls hR hS hl
  exact lv_iadd hx hb hd (next H locs ls hR hS hl)
theorem g_isub {x y : Int32} (C : Cx X own cc nL rt D mc ms) (hd : decode cc pc = .ok (.isub, 1)) (next : G X h k n (pc + 1) lv (.int (x - y) :: st)) : G X h k n pc lv (.int y :: .int x :: st) := by
  obtain ⟨p, l, e, R, s, m, args, below, meth, c, Q, E⟩ := X
  obtain ⟨hx, hb, hml, hown, hts, hO, hlk, hrt, hfr, hlo, hce, hsl, hbs, -⟩ := C
  intro H locs ls hR hS hl
  exact lv_isub hx hb hd (next H locs ls hR hS hl)
theorem g_imul {x y : Int32} (C : Cx X own cc nL rt D mc ms) (hd : decode cc pc = .ok (.imul, 1)) (next : G X h k n (pc + 1) lv (.int (x * y) :: st)) : G X h k n pc lv (.int y :: .int x :: st) := by
  obtain ⟨p, l, e, R, s, m, args, below, meth, c, Q, E⟩ := X
  obtain ⟨hx, hb, hml, hown, hts, hO, hlk, hrt, hfr, hlo, hce, hsl, hbs, -⟩ := C
  intro H locs ls hR hS hl
  exact lv_imul hx hb hd (next H locs ls hR hS hl)
theorem g_iand {x y : Int32} (C : Cx X own cc nL rt D mc ms) (hd : decode cc pc = .ok (.iand, 1)) (next : G X h k n (pc + 1) lv (.int (x &&& y) :: st)) : G X h k n pc lv (.int y :: .int x :: st) := by
  obtain ⟨p, l, e, R, s, m, args, below, meth, c, Q, E⟩ := X
  obtain ⟨hx, hb, hml, hown, hts, hO, hlk, hrt, hfr, hlo, hce, hsl, hbs, -⟩ := C
  intro H locs ls hR hS hl
  exact lv_iand hx hb hd (next H locs ls hR hS hl)
theorem g_ior {x y : Int32} (C : Cx X own cc nL rt D mc ms) (hd : decode cc pc = .ok (.ior, 1)) (next : G X h k n (pc + 1) lv (.int (x ||| y) :: st)) : G X h k n pc lv (.int y :: .int x :: st) := by
  obtain ⟨p, l, e, R, s, m, args, below, meth, c, Q, E⟩ := X
  obtain ⟨hx, hb, hml, hown, hts, hO, hlk, hrt, hfr, hlo, hce, hsl, hbs, -⟩ := C
  intro H locs ls hR hS hl
  exact lv_ior hx hb hd (next H locs ls hR hS hl)
theorem g_ixor {x y : Int32} (C : Cx X own cc nL rt D mc ms) (hd : decode cc pc = .ok (.ixor, 1)) (next : G X h k n (pc + 1) lv (.int (x ^^^ y) :: st)) : G X h k n pc lv (.int y :: .int x :: st) := by
  obtain ⟨p, l, e, R, s, m, args, below, meth, c, Q, E⟩ := X
  obtain ⟨hx, hb, hml, hown, hts, hO, hlk, hrt, hfr, hlo, hce, hsl, hbs, -⟩ := C
  intro H locs ls hR hS hl
  exact lv_ixor hx hb hd (next H locs ls hR hS hl)
theorem g_ishl {x y : Int32} (C : Cx X own cc nL rt D mc ms) (hd : decode cc pc = .ok (.ishl, 1)) (next : G X h k n (pc + 1) lv (.int (x <<< (y &&& 31)) :: st)) : G X h k n pc lv (.int y :: .int x :: st) := by
  obtain ⟨p, l, e, R, s, m, args, below, meth, c, Q, E⟩ := X
  obtain ⟨hx, hb, hml, hown, hts, hO, hlk, hrt, hfr, hlo, hce, hsl, hbs, -⟩ := C
  intro H locs ls hR hS hl
  exact lv_ishl hx hb hd (next H locs ls hR hS hl)
theorem g_ishr {x y : Int32} (C : Cx X own cc nL rt D mc ms) (hd : decode cc pc = .ok (.ishr, 1)) (next : G X h k n (pc + 1) lv (.int (x >>> (y &&& 31)) :: st)) : G X h k n pc lv (.int y :: .int x :: st) := by
  obtain ⟨p, l, e, R, s, m, args, below, meth, c, Q, E⟩ := X
  obtain ⟨hx, hb, hml, hown, hts, hO, hlk, hrt, hfr, hlo, hce, hsl, hbs, -⟩ := C
  intro H locs ls hR hS hl
  exact lv_ishr hx hb hd (next H locs ls hR hS hl)
theorem g_idiv {x y : Int32} (C : Cx X own cc nL rt D mc ms) (hd : decode cc pc = .ok (.idiv, 1)) (hne : ¬ y = 0) (next : G X h k n (pc + 1) lv (.int (x / y) :: st)) : G X h k n pc lv (.int y :: .int x :: st) := by
  obtain ⟨p, l, e, R, s, m, args, below, meth, c, Q, E⟩ := X
  obtain ⟨hx, hb, hml, hown, hts, hO, hlk, hrt, hfr, hlo, hce, hsl, hbs, -⟩ := C
  intro H locs ls hR hS hl
  exact lv_idiv hx hb hd hne (next H locs ls hR hS hl)
theorem g_irem {x y : Int32} (C : Cx X own cc nL rt D mc ms) (hd : decode cc pc = .ok (.irem, 1)) (hne : ¬ y = 0) (next : G X h k n (pc + 1) lv (.int (x - x / y * y) :: st)) : G X h k n pc lv (.int y :: .int x :: st) := by
  obtain ⟨p, l, e, R, s, m, args, below, meth, c, Q, E⟩ := X
  obtain ⟨hx, hb, hml, hown, hts, hO, hlk, hrt, hfr, hlo, hce, hsl, hbs, -⟩ := C
  intro H locs ls hR hS hl
  exact lv_irem hx hb hd hne (next H locs ls hR hS hl)
theorem g_ineg {x : Int32} (C : Cx X own cc nL rt D mc ms) (hd : decode cc pc = .ok (.ineg, 1)) (next : G X h k n (pc + 1) lv (.int (-x) :: st)) : G X h k n pc lv (.int x :: st) := by
  obtain ⟨p, l, e, R, s, m, args, below, meth, c, Q, E⟩ := X
  obtain ⟨hx, hb, hml, hown, hts, hO, hlk, hrt, hfr, hlo, hce, hsl, hbs, -⟩ := C
  intro H locs ls hR hS hl
  exact lv_ineg hx hb hd (next H locs ls hR hS hl)
theorem g_iushr {x y : Int32} (C : Cx X own cc nL rt D mc ms) (hd : decode cc pc = .ok (.iushr, 1)) (next : G X h k n (pc + 1) lv (.int ((x.toUInt32 >>> (y.toUInt32 &&& Int32.toUInt32 31)).toInt32) :: st)) : G X h k n pc lv (.int y :: .int x :: st) := by
  obtain ⟨p, l, e, R, s, m, args, below, meth, c, Q, E⟩ := X
  obtain ⟨hx, hb, hml, hown, hts, hO, hlk, hrt, hfr, hlo, hce, hsl, hbs, -⟩ := C
  intro H locs ls hR hS hl
  exact lv_iushr hx hb hd rfl (next H locs ls hR hS hl)
theorem g_ladd {x y : Int64} (C : Cx X own cc nL rt D mc ms) (hd : decode cc pc = .ok (.ladd, 1)) (next : G X h k n (pc + 1) lv (.long (x + y) :: st)) : G X h k n pc lv (.long y :: .long x :: st) := by
  obtain ⟨p, l, e, R, s, m, args, below, meth, c, Q, E⟩ := X
  obtain ⟨hx, hb, hml, hown, hts, hO, hlk, hrt, hfr, hlo, hce, hsl, hbs, -⟩ := C
  intro H locs ls hR hS hl
  exact lv_ladd hx hb hd (next H locs ls hR hS hl)
theorem g_lsub {x y : Int64} (C : Cx X own cc nL rt D mc ms) (hd : decode cc pc = .ok (.lsub, 1)) (next : G X h k n (pc + 1) lv (.long (x - y) :: st)) : G X h k n pc lv (.long y :: .long x :: st) := by
  obtain ⟨p, l, e, R, s, m, args, below, meth, c, Q, E⟩ := X
  obtain ⟨hx, hb, hml, hown, hts, hO, hlk, hrt, hfr, hlo, hce, hsl, hbs, -⟩ := C
  intro H locs ls hR hS hl
  exact lv_lsub hx hb hd (next H locs ls hR hS hl)
theorem g_lmul {x y : Int64} (C : Cx X own cc nL rt D mc ms) (hd : decode cc pc = .ok (.lmul, 1)) (next : G X h k n (pc + 1) lv (.long (x * y) :: st)) : G X h k n pc lv (.long y :: .long x :: st) := by
  obtain ⟨p, l, e, R, s, m, args, below, meth, c, Q, E⟩ := X
  obtain ⟨hx, hb, hml, hown, hts, hO, hlk, hrt, hfr, hlo, hce, hsl, hbs, -⟩ := C
  intro H locs ls hR hS hl
  exact lv_lmul hx hb hd (next H locs ls hR hS hl)
theorem g_ldiv {x y : Int64} (C : Cx X own cc nL rt D mc ms) (hd : decode cc pc = .ok (.ldiv, 1)) (hne : ¬ y = 0) (next : G X h k n (pc + 1) lv (.long (x / y) :: st)) : G X h k n pc lv (.long y :: .long x :: st) := by
  obtain ⟨p, l, e, R, s, m, args, below, meth, c, Q, E⟩ := X
  obtain ⟨hx, hb, hml, hown, hts, hO, hlk, hrt, hfr, hlo, hce, hsl, hbs, -⟩ := C
  intro H locs ls hR hS hl
  exact lv_ldiv hx hb hd hne (next H locs ls hR hS hl)
theorem g_lrem {x y : Int64} (C : Cx X own cc nL rt D mc ms) (hd : decode cc pc = .ok (.lrem, 1)) (hne : ¬ y = 0) (next : G X h k n (pc + 1) lv (.long (x - x / y * y) :: st)) : G X h k n pc lv (.long y :: .long x :: st) := by
  obtain ⟨p, l, e, R, s, m, args, below, meth, c, Q, E⟩ := X
  obtain ⟨hx, hb, hml, hown, hts, hO, hlk, hrt, hfr, hlo, hce, hsl, hbs, -⟩ := C
  intro H locs ls hR hS hl
  exact lv_lrem hx hb hd hne (next H locs ls hR hS hl)
theorem g_lcmp {x y : Int64} (C : Cx X own cc nL rt D mc ms) (hd : decode cc pc = .ok (.lcmp, 1)) (next : G X h k n (pc + 1) lv (.int (lg_cmp x y) :: st)) : G X h k n pc lv (.long y :: .long x :: st) := by
  obtain ⟨p, l, e, R, s, m, args, below, meth, c, Q, E⟩ := X
  obtain ⟨hx, hb, hml, hown, hts, hO, hlk, hrt, hfr, hlo, hce, hsl, hbs, -⟩ := C
  intro H locs ls hR hS hl
  exact W.lcmp hx hb hd (next H locs ls hR hS hl)
theorem g_i2l {x : Int32} (C : Cx X own cc nL rt D mc ms) (hd : decode cc pc = .ok (.i2l, 1)) (next : G X h k n (pc + 1) lv (.long x.toInt64 :: st)) : G X h k n pc lv (.int x :: st) := by
  obtain ⟨p, l, e, R, s, m, args, below, meth, c, Q, E⟩ := X
  obtain ⟨hx, hb, hml, hown, hts, hO, hlk, hrt, hfr, hlo, hce, hsl, hbs, -⟩ := C
  intro H locs ls hR hS hl
  exact lv_i2l hx hb hd rfl (next H locs ls hR hS hl)
theorem g_l2i {x : Int64} (C : Cx X own cc nL rt D mc ms) (hd : decode cc pc = .ok (.l2i, 1)) (next : G X h k n (pc + 1) lv (.int x.toInt32 :: st)) : G X h k n pc lv (.long x :: st) := by
  obtain ⟨p, l, e, R, s, m, args, below, meth, c, Q, E⟩ := X
  obtain ⟨hx, hb, hml, hown, hts, hO, hlk, hrt, hfr, hlo, hce, hsl, hbs, -⟩ := C
  intro H locs ls hR hS hl
  exact lv_l2i hx hb hd rfl (next H locs ls hR hS hl)
theorem g_i2b {x : Int32} (C : Cx X own cc nL rt D mc ms) (hd : decode cc pc = .ok (.i2b, 1)) (next : G X h k n (pc + 1) lv (.int x.toInt8.toInt32 :: st)) : G X h k n pc lv (.int x :: st) := by
  obtain ⟨p, l, e, R, s, m, args, below, meth, c, Q, E⟩ := X
  obtain ⟨hx, hb, hml, hown, hts, hO, hlk, hrt, hfr, hlo, hce, hsl, hbs, -⟩ := C
  intro H locs ls hR hS hl
  exact lv_i2b hx hb hd rfl (next H locs ls hR hS hl)
theorem g_i2c {x : Int32} (C : Cx X own cc nL rt D mc ms) (hd : decode cc pc = .ok (.i2c, 1)) (next : G X h k n (pc + 1) lv (.int (x.toUInt32 % 65536).toInt32 :: st)) : G X h k n pc lv (.int x :: st) := by
  obtain ⟨p, l, e, R, s, m, args, below, meth, c, Q, E⟩ := X
  obtain ⟨hx, hb, hml, hown, hts, hO, hlk, hrt, hfr, hlo, hce, hsl, hbs, -⟩ := C
  intro H locs ls hR hS hl
  exact lv_i2c hx hb hd rfl (next H locs ls hR hS hl)
theorem g_dup {v : Value} (C : Cx X own cc nL rt D mc ms) (hd : decode cc pc = .ok (.dup, 1)) (hv : v.category = 1) (next : G X h k n (pc + 1) lv (v :: v :: st)) : G X h k n pc lv (v :: st) := by
  obtain ⟨p, l, e, R, s, m, args, below, meth, c, Q, E⟩ := X
  obtain ⟨hx, hb, hml, hown, hts, hO, hlk, hrt, hfr, hlo, hce, hsl, hbs, -⟩ := C
  intro H locs ls hR hS hl
  exact lv_dup hx hb hd (by rw [cv_cat]; exact hv) (next H locs ls hR hS hl)
theorem g_pop {v : Value} (C : Cx X own cc nL rt D mc ms) (hd : decode cc pc = .ok (.pop, 1)) (hv : v.category = 1) (next : G X h k n (pc + 1) lv (st)) : G X h k n pc lv (v :: st) := by
  obtain ⟨p, l, e, R, s, m, args, below, meth, c, Q, E⟩ := X
  obtain ⟨hx, hb, hml, hown, hts, hO, hlk, hrt, hfr, hlo, hce, hsl, hbs, -⟩ := C
  intro H locs ls hR hS hl
  exact lv_pop hx hb hd (by rw [cv_cat]; exact hv) (next H locs ls hR hS hl)
theorem g_dup2 {v w : Value} (C : Cx X own cc nL rt D mc ms) (hd : decode cc pc = .ok (.dup2, 1)) (hv : v.category = 1) (hw : w.category = 1) (next : G X h k n (pc + 1) lv (v :: w :: v :: w :: st)) : G X h k n pc lv (v :: w :: st) := by
  obtain ⟨p, l, e, R, s, m, args, below, meth, c, Q, E⟩ := X
  obtain ⟨hx, hb, hml, hown, hts, hO, hlk, hrt, hfr, hlo, hce, hsl, hbs, -⟩ := C
  intro H locs ls hR hS hl
  exact lv_dup2_11 hx hb hd (by rw [cv_cat]; exact hv) (by rw [cv_cat]; exact hw) (next H locs ls hR hS hl)
theorem g_if_eq {x : Int32} {off : Int} (tgt : Nat) (C : Cx X own cc nL rt D mc ms) (hd : decode cc pc = .ok (.ifCond .eq off, 3)) (ht : (pc : Int) + off = (tgt : Int)) (kt : x = 0 → G X h k n tgt lv st) (kf : ¬ x = 0 → G X h k n (pc + 3) lv st) : G X h k n pc lv (.int x :: st) := by
  obtain ⟨p, l, e, R, s, m, args, below, meth, c, Q, E⟩ := X
  obtain ⟨hx, hb, hml, hown, hts, hO, hlk, hrt, hfr, hlo, hce, hsl, hbs, -⟩ := C
  intro H locs ls hR hS hl
  exact lv_if_eq hx hb hd ht (fun q => kt q H locs ls hR hS hl) (fun q => kf q H locs ls hR hS hl)
theorem g_ic_eq {x y : Int32} {off : Int} (tgt : Nat) (C : Cx X own cc nL rt D mc ms) (hd : decode cc pc = .ok (.if_icmp .eq off, 3)) (ht : (pc : Int) + off = (tgt : Int)) (kt : x = y → G X h k n tgt lv st) (kf : ¬ x = y → G X h k n (pc + 3) lv st) : G X h k n pc lv (.int y :: .int x :: st) := by
  obtain ⟨p, l, e, R, s, m, args, below, meth, c, Q, E⟩ := X
  obtain ⟨hx, hb, hml, hown, hts, hO, hlk, hrt, hfr, hlo, hce, hsl, hbs, -⟩ := C
  intro H locs ls hR hS hl
  exact lv_icmp_eq hx hb hd ht (fun q => kt q H locs ls hR hS hl) (fun q => kf q H locs ls hR hS hl)
theorem g_if_ne {x : Int32} {off : Int} (tgt : Nat) (C : Cx X own cc nL rt D mc ms) (hd : decode cc pc = .ok (.ifCond .ne off, 3)) (ht : (pc : Int) + off = (tgt : Int)) (kt : ¬ x = 0 → G X h k n tgt lv st) (kf : x = 0 → G X h k n (pc + 3) lv st) : G X h k n pc lv (.int x :: st) := by
  obtain ⟨p, l, e, R, s, m, args, below, meth, c, Q, E⟩ := X
  obtain ⟨hx, hb, hml, hown, hts, hO, hlk, hrt, hfr, hlo, hce, hsl, hbs, -⟩ := C
  intro H locs ls hR hS hl
  exact lv_if_ne hx hb hd ht (fun q => kt q H locs ls hR hS hl) (fun q => kf q H locs ls hR hS hl)
theorem g_ic_ne {x y : Int32} {off : Int} (tgt : Nat) (C : Cx X own cc nL rt D mc ms) (hd : decode cc pc = .ok (.if_icmp .ne off, 3)) (ht : (pc : Int) + off = (tgt : Int)) (kt : ¬ x = y → G X h k n tgt lv st) (kf : x = y → G X h k n (pc + 3) lv st) : G X h k n pc lv (.int y :: .int x :: st) := by
  obtain ⟨p, l, e, R, s, m, args, below, meth, c, Q, E⟩ := X
  obtain ⟨hx, hb, hml, hown, hts, hO, hlk, hrt, hfr, hlo, hce, hsl, hbs, -⟩ := C
  intro H locs ls hR hS hl
  exact lv_icmp_ne hx hb hd ht (fun q => kt q H locs ls hR hS hl) (fun q => kf q H locs ls hR hS hl)
theorem g_if_lt {x : Int32} {off : Int} (tgt : Nat) (C : Cx X own cc nL rt D mc ms) (hd : decode cc pc = .ok (.ifCond .lt off, 3)) (ht : (pc : Int) + off = (tgt : Int)) (kt : x < 0 → G X h k n tgt lv st) (kf : ¬ x < 0 → G X h k n (pc + 3) lv st) : G X h k n pc lv (.int x :: st) := by
  obtain ⟨p, l, e, R, s, m, args, below, meth, c, Q, E⟩ := X
  obtain ⟨hx, hb, hml, hown, hts, hO, hlk, hrt, hfr, hlo, hce, hsl, hbs, -⟩ := C
  intro H locs ls hR hS hl
  exact lv_if_lt hx hb hd ht (fun q => kt q H locs ls hR hS hl) (fun q => kf q H locs ls hR hS hl)
theorem g_ic_lt {x y : Int32} {off : Int} (tgt : Nat) (C : Cx X own cc nL rt D mc ms) (hd : decode cc pc = .ok (.if_icmp .lt off, 3)) (ht : (pc : Int) + off = (tgt : Int)) (kt : x < y → G X h k n tgt lv st) (kf : ¬ x < y → G X h k n (pc + 3) lv st) : G X h k n pc lv (.int y :: .int x :: st) := by
  obtain ⟨p, l, e, R, s, m, args, below, meth, c, Q, E⟩ := X
  obtain ⟨hx, hb, hml, hown, hts, hO, hlk, hrt, hfr, hlo, hce, hsl, hbs, -⟩ := C
  intro H locs ls hR hS hl
  exact lv_icmp_lt hx hb hd ht (fun q => kt q H locs ls hR hS hl) (fun q => kf q H locs ls hR hS hl)
theorem g_if_ge {x : Int32} {off : Int} (tgt : Nat) (C : Cx X own cc nL rt D mc ms) (hd : decode cc pc = .ok (.ifCond .ge off, 3)) (ht : (pc : Int) + off = (tgt : Int)) (kt : 0 ≤ x → G X h k n tgt lv st) (kf : ¬ 0 ≤ x → G X h k n (pc + 3) lv st) : G X h k n pc lv (.int x :: st) := by
  obtain ⟨p, l, e, R, s, m, args, below, meth, c, Q, E⟩ := X
  obtain ⟨hx, hb, hml, hown, hts, hO, hlk, hrt, hfr, hlo, hce, hsl, hbs, -⟩ := C
  intro H locs ls hR hS hl
  exact lv_if_ge hx hb hd ht (fun q => kt q H locs ls hR hS hl) (fun q => kf q H locs ls hR hS hl)
theorem g_ic_ge {x y : Int32} {off : Int} (tgt : Nat) (C : Cx X own cc nL rt D mc ms) (hd : decode cc pc = .ok (.if_icmp .ge off, 3)) (ht : (pc : Int) + off = (tgt : Int)) (kt : y ≤ x → G X h k n tgt lv st) (kf : ¬ y ≤ x → G X h k n (pc + 3) lv st) : G X h k n pc lv (.int y :: .int x :: st) := by
  obtain ⟨p, l, e, R, s, m, args, below, meth, c, Q, E⟩ := X
  obtain ⟨hx, hb, hml, hown, hts, hO, hlk, hrt, hfr, hlo, hce, hsl, hbs, -⟩ := C
  intro H locs ls hR hS hl
  exact lv_icmp_ge hx hb hd ht (fun q => kt q H locs ls hR hS hl) (fun q => kf q H locs ls hR hS hl)
theorem g_if_gt {x : Int32} {off : Int} (tgt : Nat) (C : Cx X own cc nL rt D mc ms) (hd : decode cc pc = .ok (.ifCond .gt off, 3)) (ht : (pc : Int) + off = (tgt : Int)) (kt : 0 < x → G X h k n tgt lv st) (kf : ¬ 0 < x → G X h k n (pc + 3) lv st) : G X h k n pc lv (.int x :: st) := by
  obtain ⟨p, l, e, R, s, m, args, below, meth, c, Q, E⟩ := X
  obtain ⟨hx, hb, hml, hown, hts, hO, hlk, hrt, hfr, hlo, hce, hsl, hbs, -⟩ := C
  intro H locs ls hR hS hl
  exact lv_if_gt hx hb hd ht (fun q => kt q H locs ls hR hS hl) (fun q => kf q H locs ls hR hS hl)
theorem g_ic_gt {x y : Int32} {off : Int} (tgt : Nat) (C : Cx X own cc nL rt D mc ms) (hd : decode cc pc = .ok (.if_icmp .gt off, 3)) (ht : (pc : Int) + off = (tgt : Int)) (kt : y < x → G X h k n tgt lv st) (kf : ¬ y < x → G X h k n (pc + 3) lv st) : G X h k n pc lv (.int y :: .int x :: st) := by
  obtain ⟨p, l, e, R, s, m, args, below, meth, c, Q, E⟩ := X
  obtain ⟨hx, hb, hml, hown, hts, hO, hlk, hrt, hfr, hlo, hce, hsl, hbs, -⟩ := C
  intro H locs ls hR hS hl
  exact lv_icmp_gt hx hb hd ht (fun q => kt q H locs ls hR hS hl) (fun q => kf q H locs ls hR hS hl)
theorem g_if_le {x : Int32} {off : Int} (tgt : Nat) (C : Cx X own cc nL rt D mc ms) (hd : decode cc pc = .ok (.ifCond .le off, 3)) (ht : (pc : Int) + off = (tgt : Int)) (kt : x ≤ 0 → G X h k n tgt lv st) (kf : ¬ x ≤ 0 → G X h k n (pc + 3) lv st) : G X h k n pc lv (.int x :: st) := by
  obtain ⟨p, l, e, R, s, m, args, below, meth, c, Q, E⟩ := X
  obtain ⟨hx, hb, hml, hown, hts, hO, hlk, hrt, hfr, hlo, hce, hsl, hbs, -⟩ := C
  intro H locs ls hR hS hl
  exact lv_if_le hx hb hd ht (fun q => kt q H locs ls hR hS hl) (fun q => kf q H locs ls hR hS hl)
theorem g_ic_le {x y : Int32} {off : Int} (tgt : Nat) (C : Cx X own cc nL rt D mc ms) (hd : decode cc pc = .ok (.if_icmp .le off, 3)) (ht : (pc : Int) + off = (tgt : Int)) (kt : x ≤ y → G X h k n tgt lv st) (kf : ¬ x ≤ y → G X h k n (pc + 3) lv st) : G X h k n pc lv (.int y :: .int x :: st) := by
  obtain ⟨p, l, e, R, s, m, args, below, meth, c, Q, E⟩ := X
  obtain ⟨hx, hb, hml, hown, hts, hO, hlk, hrt, hfr, hlo, hce, hsl, hbs, -⟩ := C
  intro H locs ls hR hS hl
  exact lv_icmp_le hx hb hd ht (fun q => kt q H locs ls hR hS hl) (fun q => kf q H locs ls hR hS hl)
theorem g_goto {off : Int} (tgt : Nat) (C : Cx X own cc nL rt D mc ms) (hd : decode cc pc = .ok (.goto off, 3)) (ht : (pc : Int) + off = (tgt : Int)) (next : G X h k n tgt lv st) : G X h k n pc lv st := by
  obtain ⟨p, l, e, R, s, m, args, below, meth, c, Q, E⟩ := X
  obtain ⟨hx, hb, hml, hown, hts, hO, hlk, hrt, hfr, hlo, hce, hsl, hbs, -⟩ := C
  intro H locs ls hR hS hl
  exact lv_goto hx hb hd ht (next H locs ls hR hS hl)
theorem g_ifnonnull {a : Nat} {off : Int} (tgt : Nat) (C : Cx X own cc nL rt D mc ms) (hd : decode cc pc = .ok (.ifnonnull off, 3)) (ht : (pc : Int) + off = (tgt : Int)) (next : G X h k n tgt lv st) : G X h k n pc lv (.ref a :: st) := by
  obtain ⟨p, l, e, R, s, m, args, below, meth, c, Q, E⟩ := X
  obtain ⟨hx, hb, hml, hown, hts, hO, hlk, hrt, hfr, hlo, hce, hsl, hbs, -⟩ := C
  intro H locs ls hR hS hl
  exact lv_ifnonnull hx hb hd ht (next H locs ls hR hS hl)
theorem g_ifnullN {off : Int} (tgt : Nat) (C : Cx X own cc nL rt D mc ms) (hd : decode cc pc = .ok (.ifnull off, 3)) (ht : (pc : Int) + off = (tgt : Int)) (next : G X h k n tgt lv st) : G X h k n pc lv (.null :: st) := by
  obtain ⟨p, l, e, R, s, m, args, below, meth, c, Q, E⟩ := X
  obtain ⟨hx, hb, hml, hown, hts, hO, hlk, hrt, hfr, hlo, hce, hsl, hbs, -⟩ := C
  intro H locs ls hR hS hl
  exact lv_ifnullN hx hb hd ht (next H locs ls hR hS hl)
theorem g_ifnull {a : Nat} {off : Int} (C : Cx X own cc nL rt D mc ms) (hd : decode cc pc = .ok (.ifnull off, 3)) (next : G X h k n (pc + 3) lv st) : G X h k n pc lv (.ref a :: st) := by
  obtain ⟨p, l, e, R, s, m, args, below, meth, c, Q, E⟩ := X
  obtain ⟨hx, hb, hml, hown, hts, hO, hlk, hrt, hfr, hlo, hce, hsl, hbs, -⟩ := C
  intro H locs ls hR hS hl
  exact lv_ifnull hx hb hd (next H locs ls hR hS hl)
theorem g_ifnonnullN {off : Int} (C : Cx X own cc nL rt D mc ms) (hd : decode cc pc = .ok (.ifnonnull off, 3)) (next : G X h k n (pc + 3) lv st) : G X h k n pc lv (.null :: st) := by
  obtain ⟨p, l, e, R, s, m, args, below, meth, c, Q, E⟩ := X
  obtain ⟨hx, hb, hml, hown, hts, hO, hlk, hrt, hfr, hlo, hce, hsl, hbs, -⟩ := C
  intro H locs ls hR hS hl
  exact lv_ifnonnullN hx hb hd (next H locs ls hR hS hl)
theorem g_tabO {dflt lo hi : Int} {offs : Array Int} {len : Nat} {x : Int32} (tgt : Nat) (C : Cx X own cc nL rt D mc ms) (hd : decode cc pc = .ok (.tableswitch dflt lo hi offs, len)) (hc : x.toInt < lo ∨ hi < x.toInt) (ht : (pc : Int) + dflt = (tgt : Int)) (next : G X h k n tgt lv st) : G X h k n pc lv (.int x :: st) := by
  obtain ⟨p, l, e, R, s, m, args, below, meth, c, Q, E⟩ := X
  obtain ⟨hx, hb, hml, hown, hts, hO, hlk, hrt, hfr, hlo, hce, hsl, hbs, -⟩ := C
  intro H locs ls hR hS hl
  exact lv_tableOut hx hb hd hc ht (next H locs ls hR hS hl)
theorem g_tabI {dflt lo hi off : Int} {offs : Array Int} {len i : Nat} {x : Int32} (tgt : Nat) (C : Cx X own cc nL rt D mc ms) (hd : decode cc pc = .ok (.tableswitch dflt lo hi offs, len)) (hc : ¬ (x.toInt < lo ∨ hi < x.toInt)) (hi : i = (x.toInt - lo).toNat) (ho : offs[i]? = some off) (ht : (pc : Int) + off = (tgt : Int)) (next : G X h k n tgt lv st) : G X h k n pc lv (.int x :: st) := by
  obtain ⟨p, l, e, R, s, m, args, below, meth, c, Q, E⟩ := X
  obtain ⟨hx, hb, hml, hown, hts, hO, hlk, hrt, hfr, hlo, hce, hsl, hbs, -⟩ := C
  intro H locs ls hR hS hl
  subst hi
  exact lv_tableIn hx hb hd (fun q => hc (Or.inl q)) (fun q => hc (Or.inr q)) ho ht (next H locs ls hR hS hl)
theorem g_sub {lv' : List (Nat × Value)} (ks : List Nat) (hs : lv_pick lv ks = lv') (next : G X h k n pc lv' st) : G X h k n pc lv st := by
  obtain ⟨p, l, e, R, s, m, args, below, meth, c, Q, E⟩ := X
  intro H locs ls hR hS hl
  refine next H locs ls hR hS (lv_mono hl (fun q hq => ?_))
  obtain ⟨q0, h0, rfl⟩ := List.mem_map.mp hq
  rw [← hs] at h0
  obtain ⟨j, -, hj⟩ := List.mem_filterMap.mp h0
  exact List.mem_map.mpr ⟨q0, List.mem_of_getElem? hj, rfl⟩
theorem g_widen {k' n' : Nat} (h1 : k ≤ k') (h2 : n ≤ n') (next : G X h k' n' pc lv st) : G X h k n pc lv st := by
  obtain ⟨p, l, e, R, s, m, args, below, meth, c, Q, E⟩ := X
  intro H locs ls hR hS hl
  exact W.widen h1 h2 (next H locs ls hR hS hl)
theorem g_iret {x : Int32} (C : Cx X own cc nL (some .int) D mc ms) (hQ : EndQ X k n (some (.int x)) h) (hd : decode cc pc = .ok (.ireturn, 1)) : G X h k n pc lv [.int x] := by
  obtain ⟨p, l, e, R, s, m, args, below, meth, c, Q, E⟩ := X
  obtain ⟨hx, hb, hml, hown, hts, hO, hlk, hrt, hfr, hlo, hce, hsl, hbs, -⟩ := C
  intro H locs ls hR hS hl
  have hQ : Q = _ := hQ
  subst hQ
  exact W.iret hx hb hrt (fun t ht hw => ⟨rfl, by rw [ht]; exact hR, hS.F ht⟩) hS.2.2 hd
theorem g_lret {x : Int64} (C : Cx X own cc nL (some .long) D mc ms) (hQ : EndQ X k n (some (.long x)) h) (hd : decode cc pc = .ok (.lreturn, 1)) : G X h k n pc lv [.long x] := by
  obtain ⟨p, l, e, R, s, m, args, below, meth, c, Q, E⟩ := X
  obtain ⟨hx, hb, hml, hown, hts, hO, hlk, hrt, hfr, hlo, hce, hsl, hbs, -⟩ := C
  intro H locs ls hR hS hl
  have hQ : Q = _ := hQ
  subst hQ
  exact W.lret hx hb hrt (fun t ht hw => ⟨rfl, by rw [ht]; exact hR, hS.F ht⟩) hS.2.2 hd
theorem b2i_narrow (b : Bool) : narrow .boolean (.int (b2i b)) = .int (b2i b) ∧ fits .boolean (.int (b2i b)) = true := by cases b <;> exact ⟨by decide +kernel, by decide +kernel⟩
theorem g_zret {b : Bool} {x : Int32} (C : Cx X own cc nL (some .boolean) D mc ms) (hQ : EndQ X k n (some (.int (b2i b))) h) (hx0 : x = b2i b) (hd : decode cc pc = .ok (.ireturn, 1)) : G X h k n pc lv [.int x] := by
  subst hx0
  obtain ⟨p, l, e, R, s, m, args, below, meth, c, Q, E⟩ := X
  obtain ⟨hx, hb, hml, hown, hts, hO, hlk, hrt, hfr, hlo, hce, hsl, hbs, -⟩ := C
  intro H locs ls hR hS hl
  have hQ : Q = _ := hQ
  subst hQ
  exact W.zret hx hb hrt (b2i_narrow b).1 (fun t ht hw => ⟨rfl, by rw [ht]; exact hR, hS.F ht⟩) hS.2.2 hd
theorem g_vret (C : Cx X own cc nL none D mc ms) (hQ : EndQ X k n none h) (hd : decode cc pc = .ok (.return_, 1)) : G X h k n pc lv [] := by
  obtain ⟨p, l, e, R, s, m, args, below, meth, c, Q, E⟩ := X
  obtain ⟨hx, hb, hml, hown, hts, hO, hlk, hrt, hfr, hlo, hce, hsl, hbs, -⟩ := C
  intro H locs ls hR hS hl
  have hQ : Q = _ := hQ
  subst hQ
  exact W.vret hx hb hrt (fun t ht hw => ⟨rfl, by rw [ht]; exact hR, hS.F ht⟩) hS.2.2 hd
theorem g_aret {a : Nat} {cn : String} (C : Cx X own cc nL (some (.object cn)) D mc ms) (hQ : EndQ X k n (some (.ref a)) h) (hd : decode cc pc = .ok (.areturn, 1)) : G X h k n pc lv [.ref a] := by
  obtain ⟨p, l, e, R, s, m, args, below, meth, c, Q, E⟩ := X
  obtain ⟨hx, hb, hml, hown, hts, hO, hlk, hrt, hfr, hlo, hce, hsl, hbs, -⟩ := C
  intro H locs ls hR hS hl
  have hQ : Q = _ := hQ
  subst hQ
  exact W.aret hx hb hrt (Or.inl ⟨_, rfl⟩) (Or.inr ⟨_, rfl⟩) (fun t ht hw => ⟨rfl, by rw [ht]; exact hR, hS.F ht⟩) hS.2.2 hd
theorem g_aretN {cn : String} (C : Cx X own cc nL (some (.object cn)) D mc ms) (hQ : EndQ X k n (some .null) h) (hd : decode cc pc = .ok (.areturn, 1)) : G X h k n pc lv [.null] := by
  obtain ⟨p, l, e, R, s, m, args, below, meth, c, Q, E⟩ := X
  obtain ⟨hx, hb, hml, hown, hts, hO, hlk, hrt, hfr, hlo, hce, hsl, hbs, -⟩ := C
  intro H locs ls hR hS hl
  have hQ : Q = _ := hQ
  subst hQ
  exact W.aret hx hb hrt (Or.inl ⟨_, rfl⟩) (Or.inl rfl) (fun t ht hw => ⟨rfl, by rw [ht]; exact hR, hS.F ht⟩) hS.2.2 hd
end GR
end
section
section GH
variable {X : Xt} {own : String} {cc : ByteArray} {nL : Nat} {rt : Option FieldType} {D mc ms : Nat} {h : Hp} {k n pc : Nat} {lv : List (Nat × Value)} {st : List Value}
/-- a link to field f of class number ci: its type, whether it is final -/
def FLk (own : String) (idx ci f : Nat) (ty : FieldType) (fin : Bool) : Prop := ∃ (C : String) (T : u_T) (N : Nat) (ty0 : Nat → FieldType), cls[ci]? = some (C, T, N) ∧ f < N ∧ (∀ w ∈ u_ws C T N, w ∈ gw) ∧ (∀ k, k < N → parseFieldDescriptor (T k).2.2.1 = some (ty0 k)) ∧ (∀ a, a < N → ∀ b, b < N → a ≠ b → (T a).2.1 ≠ (T b).2.1) ∧ Cond.fieldLink own idx (T f).1 (T f).2.1 (T f).2.2.1 ∈ gw ∧ ty0 f = ty ∧ (T f).2.2.2 = fin
theorem sz_of {E : Ex} {H : Heap} {a : Nat} (hR : Rl E h H) (ha : a < 110 ∨ a < sz h) : a < sz h := by
  obtain ⟨-, h1, -, -⟩ := hR
  rcases ha with ha | ha
  · omega
  · exact ha
theorem cE_o {E : Ex} {a ci : Nat} {fs : List (Option Nat)} (hk : kd a = .inl (ci, fs)) : cE E h a = .inr (ci, cF E (fI h a) 0 fs) := by unfold cE; rw [hk]
theorem cE_i {E : Ex} {a t : Nat} {on : Option Nat} (hk : kd a = .inr (t, on)) (ht : t < 3) : cE E h a = .inl (E.2.1 t, on.getD (ln h a), .inl (aI h a)) := by unfold cE; rw [hk]; simp only [if_pos ht]
theorem cE_l {E : Ex} {a : Nat} {on : Option Nat} (hk : kd a = .inr (3, on)) : cE E h a = .inl (E.2.1 3, on.getD (ln h a), .inr (.inl (aL h a))) := by unfold cE; rw [hk]; rfl
theorem cE_r {E : Ex} {a t : Nat} {on : Option Nat} (hk : kd a = .inr (t, on)) (ht : 3 < t) : cE E h a = .inl (E.2.1 t, on.getD (ln h a), .inr (.inr (.inr (.inr (fun i => (aO h a i).map (ra E)))))) := by
  unfold cE; rw [hk]; simp only [if_neg (show ¬ t < 3 by omega), if_neg (show ¬ t = 3 by omega)]
theorem g_getI {idx ci f a : Nat} {fs : List (Option Nat)} {ty : FieldType} {fin : Bool} (C : Cx X own cc nL rt D mc ms) (hd : decode cc pc = .ok (.getfield idx, 3)) (hF : FLk own idx ci f ty fin) (hk : kd a = .inl (ci, fs)) (hf : fs[f]? = some none) (ha : a < 110 ∨ a < sz h) (next : G X h k n (pc + 3) lv (.int (fI h a f) :: st)) : G X h k n pc lv (.ref a :: st) := by
  obtain ⟨p, l, e, R, s, m, args, below, meth, c, Q, E⟩ := X
  obtain ⟨hx, hb, hml, hown, hts, hO, hlk, hrt, hfr, hlo, hce, hsl, hbs, -⟩ := C
  obtain ⟨cN, T, N, ty0, h1, h2, h3, h4, h5, h6, h7, h8⟩ := hF
  intro H locs ls hR hS hl
  have ha := sz_of hR ha
  have hz := hR.2.2.1
  have hq := ws_at (E := E) ha
  rw [cE_o hk] at hq
  have hv := (cF_get (E := E) (g := fI h a) fs 0 f).1 hf
  rw [Nat.zero_add] at hv
  have e1 : cv E (.ref a) = .ref (E.2.2.1 + a) := by show Value.ref (ra E a) = _; rw [ra_lt ha hz]
  rw [List.map_cons, e1]
  exact va_get hx hb hts h3 hown hO.1 hR.2.2.2 a hq h1 f h2 (hts _ h6) (fun _ h => h) hv hd (next H locs ls hR hS hl)
theorem g_getR {idx ci f a b : Nat} {fs : List (Option Nat)} {ty : FieldType} {fin : Bool} (C : Cx X own cc nL rt D mc ms) (hd : decode cc pc = .ok (.getfield idx, 3)) (hF : FLk own idx ci f ty fin) (hk : kd a = .inl (ci, fs)) (hf : fs[f]? = some (some b)) (ha : a < 110 ∨ a < sz h) (next : G X h k n (pc + 3) lv (.ref b :: st)) : G X h k n pc lv (.ref a :: st) := by
  obtain ⟨p, l, e, R, s, m, args, below, meth, c, Q, E⟩ := X
  obtain ⟨hx, hb, hml, hown, hts, hO, hlk, hrt, hfr, hlo, hce, hsl, hbs, -⟩ := C
  obtain ⟨cN, T, N, ty0, h1, h2, h3, h4, h5, h6, h7, h8⟩ := hF
  intro H locs ls hR hS hl
  have ha := sz_of hR ha
  have hz := hR.2.2.1
  have hq := ws_at (E := E) ha
  rw [cE_o hk] at hq
  have hv := (cF_get (E := E) (g := fI h a) fs 0 f).2 b hf
  have e1 : cv E (.ref a) = .ref (E.2.2.1 + a) := by show Value.ref (ra E a) = _; rw [ra_lt ha hz]
  rw [List.map_cons, e1]
  exact va_get hx hb hts h3 hown hO.1 hR.2.2.2 a hq h1 f h2 (hts _ h6) (fun _ h => h) hv hd (next H locs ls hR hS hl)
/-- a cell of the world changed in its place -/
theorem Rl_put {E : Ex} {H H1 : Heap} {h' : Hp} {a : Nat} (hR : Rl E h H) (ha : a < sz h) (hz : sz h' = sz h) (hs : H1.size = H.size) (hne : ∀ b, b ≠ a → cE E h' b = cE E h b) (oq : ∀ q : Nat, q ≠ E.2.2.1 + a → H1[q]? = H[q]?) (he : va_at E.1 cls (E.2.2.1 + a, cE E h' a) H1) : Rl E h' H1 := by
  obtain ⟨r1, r2, r3, r4⟩ := hR
  refine ⟨by rw [hs, hz]; exact r1, by omega, by omega, ?_⟩
  have hP := r4.set (ws_D E h) (ws_at ha) he oq
  rw [ws_set hz rfl hne] at hP
  exact hP
theorem cE_sF {E : Ex} {a f : Nat} {x : Int32} : ∀ b, b ≠ a → cE E (sF h a f x) b = cE E h b := by
  intro b hb
  have e2 : fI (sF h a f x) b = fI h b := by
    funext j
    show up2 h.1 a f x b j = h.1 b j
    simp only [up2, if_neg hb]
  unfold cE
  rw [e2]
  rfl
theorem fI_sF {a f : Nat} {x : Int32} : fI (sF h a f x) a = upd (fI h a) f x := by
  funext j
  show up2 h.1 a f x a j = upd (fI h a) f x j
  simp only [up2, upd, if_true]
  rfl
theorem aI_sA {a i : Nat} {x : Int32} : aI (sA h a i x) a = upd (aI h a) i x := by
  funext j
  show up2 h.2.1 a i x a j = upd (aI h a) i x j
  simp only [up2, upd, if_true]
  rfl
theorem aL_sL {a i : Nat} {x : Int64} : aL (sL h a i x) a = vp_updL (aL h a) i x := by
  funext j
  show up2 h.2.2.1 a i x a j = vp_updL (aL h a) i x j
  simp only [up2, vp_updL, if_true]
  rfl
theorem aO_sO {a i : Nat} {x : Option Nat} : aO (sO h a i x) a = va_up (aO h a) i x := by
  funext j
  show up2 h.2.2.2.1 a i x a j = va_up (aO h a) i x j
  simp only [up2, va_up, if_true]
  rfl
theorem cE_sA {E : Ex} {a i : Nat} {x : Int32} : ∀ b, b ≠ a → cE E (sA h a i x) b = cE E h b := by
  intro b hb
  have e2 : aI (sA h a i x) b = aI h b := by
    funext j
    show up2 h.2.1 a i x b j = h.2.1 b j
    simp only [up2, if_neg hb]
  unfold cE
  rw [e2]
  rfl
theorem cE_sL {E : Ex} {a i : Nat} {x : Int64} : ∀ b, b ≠ a → cE E (sL h a i x) b = cE E h b := by
  intro b hb
  have e2 : aL (sL h a i x) b = aL h b := by
    funext j
    show up2 h.2.2.1 a i x b j = h.2.2.1 b j
    simp only [up2, if_neg hb]
  unfold cE
  rw [e2]
  rfl
theorem cE_sO {E : Ex} {a i : Nat} {x : Option Nat} : ∀ b, b ≠ a → cE E (sO h a i x) b = cE E h b := by
  intro b hb
  have e2 : aO (sO h a i x) b = aO h b := by
    funext j
    show up2 h.2.2.2.1 a i x b j = h.2.2.2.1 b j
    simp only [up2, if_neg hb]
  unfold cE
  rw [e2]
  rfl
theorem cv_ref {E : Ex} {H : Heap} {a : Nat} (hR : Rl E h H) (ha : a < sz h) : cv E (.ref a) = .ref (E.2.2.1 + a) := by show Value.ref (ra E a) = _; rw [ra_lt ha hR.2.2.1]
theorem g_putI {idx ci f a : Nat} {fs : List (Option Nat)} {ty : FieldType} {x : Int32} (C : Cx X own cc nL rt D mc ms) (hd : decode cc pc = .ok (.putfield idx, 3)) (hF : FLk own idx ci f ty false) (hn : narrow ty (.int x) = .int x) (ht : fits ty (.int x) = true) (hk : kd a = .inl (ci, fs)) (hf : fs[f]? = some none) (ha : a < 110 ∨ a < sz h) (next : G X (sF h a f x) k n (pc + 3) lv st) : G X h k n pc lv (.int x :: .ref a :: st) := by
  obtain ⟨p, l, e, R, s, m, args, below, meth, c, Q, E⟩ := X
  obtain ⟨hx, hb, hml, hown, hts, hO, hlk, hrt, hfr, hlo, hce, hsl, hbs, -⟩ := C
  obtain ⟨cN, T, N, ty0, h1, h2, h3, h4, h5, h6, h7, h8⟩ := hF
  intro H locs ls hR hS hl
  have ha := sz_of hR ha
  have hq := ws_at (E := E) ha
  rw [cE_o hk] at hq
  rw [List.map_cons, List.map_cons, cv_ref hR ha]
  have hd7 : parseFieldDescriptor (T f).2.2.1 = some ty := by rw [h4 f h2, h7]
  have hlen : f < (cF E (fI h a) 0 fs).length := by rw [cF_len]; exact (List.getElem?_eq_some_iff.mp hf).1
  have hap := va_apart (own := own) hts h3 ty0 h4 h5 hO.1 h1
  obtain ⟨r, g1, cell, q1, q2, q3, q4⟩ := hR.2.2.2 a _ hq
  have hr : r = (cN, T, N) := Option.some.inj (g1.symm.trans h1)
  subst hr
  obtain ⟨hSl, hfc, kC, hkC, hkind⟩ := hO.1.1 ci _ h1
  obtain ⟨cf, kf, fi, fd, hi, hsl2⟩ := hSl f h2
  have hlay := hts _ (h3 _ (u_in_lay h2))
  unfold u_lay at hlay
  rw [if_neg (by rw [h8]; decide)] at hlay
  have hst := (u_facts hfc hkC (u_lays hts h3 h2) hi).1
  have h6' := u_store hfc hkC hkind hlay hi hd7 hn ht
  refine W.putK hx hb (f := fd) ⟨hown, hts _ h6, ⟨_, _, _, hi⟩, hst⟩ (by rw [q2]; exact h6') q1 q3 (by rw [hsl2]; exact k2_hasslot (q4 f h2)) rfl rfl hd fun H' e1 e2 e3 => ?_
  rw [hsl2] at e1
  refine next H' _ ls (Rl_put hR ha rfl e2 cE_sF e3 ?_) (hS.put e2 e3 (Nat.le_add_right _ _)) hl
  rw [cE_o hk, fI_sF]
  have e4 := cF_set (E := E) (g := fI h a) (x := x) fs 0 f hf
  rw [Nat.zero_add] at e4
  rw [← e4]
  exact ⟨_, h1, t_OB.to (V := updV (vp_V (cF E (fI h a) 0 fs)) f (.int x)) ⟨_, e1, q2, q3, t_set q4 hap h2 (.int x)⟩ (fun j _ => vp_updV_set hlen (.int x) j)⟩
theorem ty_at {E : Ex} (t : Nat) {ty : FieldType} (h : [FieldType.int, .byte, .boolean, .long, .object "SteamNations$Text", .object "SteamNations$House"][t]? = some ty) : (tys E)[t]? = some (E.2.1 t, ty) := by
  match t, h with
  | 0, h => cases h; rfl
  | 1, h => cases h; rfl
  | 2, h => cases h; rfl
  | 3, h => cases h; rfl
  | 4, h => cases h; rfl
  | 5, h => cases h; rfl
  | t + 6, h => simp at h
/-- the length of an array cell -/
def alen (h : Hp) (a : Nat) (on : Option Nat) : Nat := on.getD (ln h a)
theorem g_alen {a t : Nat} {on : Option Nat} {v : Int32} (C : Cx X own cc nL rt D mc ms) (hd : decode cc pc = .ok (.arraylength, 1)) (hk : kd a = .inr (t, on)) (ht : t < 6) (ha : a < 110 ∨ a < sz h) (hv : Int32.ofNat (alen h a on) = v) (next : G X h k n (pc + 1) lv (.int v :: st)) : G X h k n pc lv (.ref a :: st) := by
  obtain ⟨p, l, e, R, s, m, args, below, meth, c, Q, E⟩ := X
  obtain ⟨hx, hb, hml, hown, hts, hO, hlk, hrt, hfr, hlo, hce, hsl, hbs, -⟩ := C
  intro H locs ls hR hS hl
  have ha := sz_of hR ha
  have hq := ws_at (E := E) ha
  rw [List.map_cons, cv_ref hR ha]
  obtain ⟨ty, hty⟩ : ∃ ty, [FieldType.int, .byte, .boolean, .long, .object "SteamNations$Text", .object "SteamNations$House"][t]? = some ty := ⟨_, List.getElem?_eq_getElem (by simpa using ht)⟩
  have hq2 : ∃ x : vp_A, (wsE E h)[a]? = some (E.2.2.1 + a, .inl (E.2.1 t, x)) ∧ x.1 = alen h a on := by
    unfold cE at hq
    rw [hk] at hq
    exact ⟨_, hq, rfl⟩
  obtain ⟨x, hq3, hx1⟩ := hq2
  exact va_alen hx hb hO.1 hR.2.2.2 a t hq3 (ty_at t hty) (by rw [hx1]; exact hv) hd (next H locs ls hR hS hl)
theorem g_iald {a j : Nat} {on : Option Nat} {i : Int32} (C : Cx X own cc nL rt D mc ms) (hd : decode cc pc = .ok (.iaload, 1)) (hk : kd a = .inr (0, on)) (ha : a < 110 ∨ a < sz h) (hj : inb i (alen h a on) = some j) (next : G X h k n (pc + 1) lv (.int (aI h a j) :: st)) : G X h k n pc lv (.int i :: .ref a :: st) := by
  obtain ⟨p, l, e, R, s, m, args, below, meth, c, Q, E⟩ := X
  obtain ⟨hx, hb, hml, hown, hts, hO, hlk, hrt, hfr, hlo, hce, hsl, hbs, -⟩ := C
  intro H locs ls hR hS hl
  have ha := sz_of hR ha
  have hq := ws_at (E := E) ha
  rw [cE_i hk (by omega)] at hq
  rw [List.map_cons, List.map_cons, cv_ref hR ha]
  obtain ⟨hin, hj2⟩ := inb_vp hj
  subst hj2
  exact va_iald hx hb hO.1 hR.2.2.2 a 0 hq rfl hin hd (next H locs ls hR hS hl)
theorem g_bald {a j : Nat} {on : Option Nat} {i : Int32} (C : Cx X own cc nL rt D mc ms) (hd : decode cc pc = .ok (.baload, 1)) (hk : kd a = .inr (1, on)) (ha : a < 110 ∨ a < sz h) (hj : inb i (alen h a on) = some j) (next : G X h k n (pc + 1) lv (.int (aI h a j) :: st)) : G X h k n pc lv (.int i :: .ref a :: st) := by
  obtain ⟨p, l, e, R, s, m, args, below, meth, c, Q, E⟩ := X
  obtain ⟨hx, hb, hml, hown, hts, hO, hlk, hrt, hfr, hlo, hce, hsl, hbs, -⟩ := C
  intro H locs ls hR hS hl
  have ha := sz_of hR ha
  have hq := ws_at (E := E) ha
  rw [cE_i hk (by omega)] at hq
  rw [List.map_cons, List.map_cons, cv_ref hR ha]
  obtain ⟨hin, hj2⟩ := inb_vp hj
  subst hj2
  exact va_bald hx hb hO.1 hR.2.2.2 a 1 hq rfl hin hd (next H locs ls hR hS hl)
theorem g_zald {a j : Nat} {on : Option Nat} {i : Int32} (C : Cx X own cc nL rt D mc ms) (hd : decode cc pc = .ok (.baload, 1)) (hk : kd a = .inr (2, on)) (ha : a < 110 ∨ a < sz h) (hj : inb i (alen h a on) = some j) (next : G X h k n (pc + 1) lv (.int (aI h a j) :: st)) : G X h k n pc lv (.int i :: .ref a :: st) := by
  obtain ⟨p, l, e, R, s, m, args, below, meth, c, Q, E⟩ := X
  obtain ⟨hx, hb, hml, hown, hts, hO, hlk, hrt, hfr, hlo, hce, hsl, hbs, -⟩ := C
  intro H locs ls hR hS hl
  have ha := sz_of hR ha
  have hq := ws_at (E := E) ha
  rw [cE_i hk (by omega)] at hq
  rw [List.map_cons, List.map_cons, cv_ref hR ha]
  obtain ⟨hin, hj2⟩ := inb_vp hj
  subst hj2
  exact va_zald hx hb hO.1 hR.2.2.2 a 2 hq rfl hin hd (next H locs ls hR hS hl)
theorem g_lald {a j : Nat} {on : Option Nat} {i : Int32} (C : Cx X own cc nL rt D mc ms) (hd : decode cc pc = .ok (.laload, 1)) (hk : kd a = .inr (3, on)) (ha : a < 110 ∨ a < sz h) (hj : inb i (alen h a on) = some j) (next : G X h k n (pc + 1) lv (.long (aL h a j) :: st)) : G X h k n pc lv (.int i :: .ref a :: st) := by
  obtain ⟨p, l, e, R, s, m, args, below, meth, c, Q, E⟩ := X
  obtain ⟨hx, hb, hml, hown, hts, hO, hlk, hrt, hfr, hlo, hce, hsl, hbs, -⟩ := C
  intro H locs ls hR hS hl
  have ha := sz_of hR ha
  have hq := ws_at (E := E) ha
  rw [cE_l hk] at hq
  rw [List.map_cons, List.map_cons, cv_ref hR ha]
  obtain ⟨hin, hj2⟩ := inb_vp hj
  subst hj2
  exact va_lald hx hb hO.1 hR.2.2.2 a 3 hq rfl hin hd (next H locs ls hR hS hl)
/-- a reference out of an array of references: null or a cell -/
theorem g_aald {a j t : Nat} {on : Option Nat} {i : Int32} (C : Cx X own cc nL rt D mc ms) (hd : decode cc pc = .ok (.aaload, 1)) (hk : kd a = .inr (t, on)) (ht : t = 4 ∨ t = 5) (ha : a < 110 ∨ a < sz h) (hj : inb i (alen h a on) = some j) (nextN : aO h a j = none → G X h k n (pc + 1) lv (.null :: st)) (next : ∀ b, aO h a j = some b → G X h k n (pc + 1) lv (.ref b :: st)) : G X h k n pc lv (.int i :: .ref a :: st) := by
  obtain ⟨p, l, e, R, s, m, args, below, meth, c, Q, E⟩ := X
  obtain ⟨hx, hb, hml, hown, hts, hO, hlk, hrt, hfr, hlo, hce, hsl, hbs, -⟩ := C
  intro H locs ls hR hS hl
  have ha := sz_of hR ha
  have hq := ws_at (E := E) ha
  rw [cE_r hk (by omega)] at hq
  rw [List.map_cons, List.map_cons, cv_ref hR ha]
  obtain ⟨hin, hj2⟩ := inb_vp hj
  subst hj2
  have key : W p l e R s m args below meth c H locs k n Q (F0 m (pc + 1) ls (va_rf ((aO h a i.toNatClampNeg).map (ra E)) :: st.map (cv E))) := by
    cases ho : aO h a i.toNatClampNeg with
    | none => exact nextN ho H locs ls hR hS hl
    | some b => exact next b ho H locs ls hR hS hl
  rcases ht with rfl | rfl
  · exact va_aldq hx hb hO.1 hR.2.2.2 a 4 hq rfl hin hd key
  · exact va_aldq hx hb hO.1 hR.2.2.2 a 5 hq rfl hin hd key
theorem g_iast {a j : Nat} {on : Option Nat} {i x : Int32} (C : Cx X own cc nL rt D mc ms) (hd : decode cc pc = .ok (.iastore, 1)) (hk : kd a = .inr (0, on)) (ha : a < 110 ∨ a < sz h) (hj : inb i (alen h a on) = some j) (next : G X (sA h a j x) k n (pc + 1) lv st) : G X h k n pc lv (.int x :: .int i :: .ref a :: st) := by
  obtain ⟨p, l, e, R, s, m, args, below, meth, c, Q, E⟩ := X
  obtain ⟨hx, hb, hml, hown, hts, hO, hlk, hrt, hfr, hlo, hce, hsl, hbs, -⟩ := C
  intro H locs ls hR hS hl
  have ha := sz_of hR ha
  have hq := ws_at (E := E) ha
  rw [cE_i hk (by omega)] at hq
  rw [List.map_cons, List.map_cons, List.map_cons, cv_ref hR ha]
  obtain ⟨hin, hj2⟩ := inb_vp hj
  subst hj2
  refine W.iast hx hb (hR.2.2.2 a _ hq) ((hO.1.2 0 _ rfl).1 _ (fun j => .int (aI h a j))) (fun q => by cases q) (by show ¬ (i < 0 ∨ (arrV _ _ _).slots.size ≤ _); rw [arrV_size]; exact hin) rfl rfl hd fun H1 e1 z oq => ?_
  refine next H1 _ ls (Rl_put hR ha rfl z cE_sA oq ?_) (hS.put z oq (Nat.le_add_right _ _)) hl
  rw [cE_i hk (by omega), aI_sA]
  show H1[E.2.2.1 + a]? = some (vp_cell _ _)
  rw [e1, vp_cell_i, vp_cell_i, arrV_store]
  congr 2
  funext q
  by_cases hq : q = i.toNatClampNeg
  · subst hq; simp [updV, upd]
  · simp [updV, upd, hq]
theorem g_bast {a j : Nat} {on : Option Nat} {i x : Int32} (C : Cx X own cc nL rt D mc ms) (hd : decode cc pc = .ok (.bastore, 1)) (hk : kd a = .inr (1, on)) (ha : a < 110 ∨ a < sz h) (hj : inb i (alen h a on) = some j) (next : G X (sA h a j x.toInt8.toInt32) k n (pc + 1) lv st) : G X h k n pc lv (.int x :: .int i :: .ref a :: st) := by
  obtain ⟨p, l, e, R, s, m, args, below, meth, c, Q, E⟩ := X
  obtain ⟨hx, hb, hml, hown, hts, hO, hlk, hrt, hfr, hlo, hce, hsl, hbs, -⟩ := C
  intro H locs ls hR hS hl
  have ha := sz_of hR ha
  have hq := ws_at (E := E) ha
  rw [cE_i hk (by omega)] at hq
  rw [List.map_cons, List.map_cons, List.map_cons, cv_ref hR ha]
  obtain ⟨hin, hj2⟩ := inb_vp hj
  subst hj2
  refine W.bast hx hb (hR.2.2.2 a _ hq) ((hO.1.2 1 _ rfl).1 _ (fun j => .int (aI h a j))) (fun q => by cases q) (by show ¬ (i < 0 ∨ (arrV _ _ _).slots.size ≤ _); rw [arrV_size]; exact hin) rfl rfl hd fun H1 e1 z oq => ?_
  refine next H1 _ ls (Rl_put hR ha rfl z cE_sA oq ?_) (hS.put z oq (Nat.le_add_right _ _)) hl
  rw [cE_i hk (by omega), aI_sA]
  show H1[E.2.2.1 + a]? = some (vp_cell _ _)
  rw [e1, vp_cell_i, vp_cell_i, arrV_store]
  congr 2
  funext q
  by_cases hq : q = i.toNatClampNeg
  · subst hq
    simp only [updV, upd, if_true]
    first | rfl | (simp [vp_nar_byte]; done) | (rw [← vp_nar_byte]; simp [vp_nar]; done)
  · simp [updV, upd, hq]
theorem g_zast {a j : Nat} {on : Option Nat} {i x : Int32} {b : Bool} (C : Cx X own cc nL rt D mc ms) (hd : decode cc pc = .ok (.bastore, 1)) (hk : kd a = .inr (2, on)) (ha : a < 110 ∨ a < sz h) (hj : inb i (alen h a on) = some j) (hb0 : x = b2i b) (next : G X (sA h a j (b2i b)) k n (pc + 1) lv st) : G X h k n pc lv (.int x :: .int i :: .ref a :: st) := by
  subst hb0
  obtain ⟨p, l, e, R, s, m, args, below, meth, c, Q, E⟩ := X
  obtain ⟨hx, hb, hml, hown, hts, hO, hlk, hrt, hfr, hlo, hce, hsl, hbs, -⟩ := C
  intro H locs ls hR hS hl
  have ha := sz_of hR ha
  have hq := ws_at (E := E) ha
  rw [cE_i hk (by omega)] at hq
  rw [List.map_cons, List.map_cons, List.map_cons, cv_ref hR ha]
  obtain ⟨hin, hj2⟩ := inb_vp hj
  subst hj2
  refine W.zast hx hb (hR.2.2.2 a _ hq) ((hO.1.2 2 _ rfl).1 _ (fun j => .int (aI h a j))) (fun q => by cases q) (by show ¬ (i < 0 ∨ (arrV _ _ _).slots.size ≤ _); rw [arrV_size]; exact hin) rfl rfl hd fun H1 e1 z oq => ?_
  refine next H1 _ ls (Rl_put hR ha rfl z cE_sA oq ?_) (hS.put z oq (Nat.le_add_right _ _)) hl
  rw [cE_i hk (by omega), aI_sA]
  show H1[E.2.2.1 + a]? = some (vp_cell _ _)
  rw [e1, vp_cell_i, vp_cell_i, arrV_store]
  congr 2
  funext q
  by_cases hq : q = i.toNatClampNeg
  · subst hq
    simp only [updV, upd, if_true]
    exact (b2i_narrow b).1
  · simp [updV, upd, hq]
theorem g_last {a j : Nat} {on : Option Nat} {i : Int32} {x : Int64} (C : Cx X own cc nL rt D mc ms) (hd : decode cc pc = .ok (.lastore, 1)) (hk : kd a = .inr (3, on)) (ha : a < 110 ∨ a < sz h) (hj : inb i (alen h a on) = some j) (next : G X (sL h a j x) k n (pc + 1) lv st) : G X h k n pc lv (.long x :: .int i :: .ref a :: st) := by
  obtain ⟨p, l, e, R, s, m, args, below, meth, c, Q, E⟩ := X
  obtain ⟨hx, hb, hml, hown, hts, hO, hlk, hrt, hfr, hlo, hce, hsl, hbs, -⟩ := C
  intro H locs ls hR hS hl
  have ha := sz_of hR ha
  have hq := ws_at (E := E) ha
  rw [cE_l hk] at hq
  rw [List.map_cons, List.map_cons, List.map_cons, cv_ref hR ha]
  obtain ⟨hin, hj2⟩ := inb_vp hj
  subst hj2
  refine W.last hx hb (hR.2.2.2 a _ hq) ((hO.1.2 3 _ rfl).1 _ (fun j => .long (aL h a j))) (fun q => by cases q) (by show ¬ (i < 0 ∨ (arrV _ _ _).slots.size ≤ _); rw [arrV_size]; exact hin) rfl rfl hd fun H1 e1 z oq => ?_
  refine next H1 _ ls (Rl_put hR ha rfl z cE_sL oq ?_) (hS.put z oq (Nat.le_add_right _ _)) hl
  rw [cE_l hk, aL_sL]
  show H1[E.2.2.1 + a]? = some (vp_cell _ _)
  rw [e1, vp_cell_l, vp_cell_l, arrV_store]
  congr 2
  funext q
  by_cases hq : q = i.toNatClampNeg
  · subst hq; simp [updV, vp_updL]
  · simp [updV, vp_updL, hq]
end GH
end
section
section GC
variable {X : Xt} {own : String} {cc : ByteArray} {nL : Nat} {rt : Option FieldType} {D mc ms : Nat} {h : Hp} {k n pc : Nat} {lv : List (Nat × Value)} {st : List Value}
theorem g_aastN {a j : Nat} {on : Option Nat} {i : Int32} (C : Cx X own cc nL rt D mc ms) (hd : decode cc pc = .ok (.aastore, 1)) (hk : kd a = .inr (4, on)) (ha : a < 110 ∨ a < sz h) (hj : inb i (alen h a on) = some j) (next : G X (sO h a j none) k n (pc + 1) lv st) : G X h k n pc lv (.null :: .int i :: .ref a :: st) := by
  obtain ⟨p, l, e, R, s, m, args, below, meth, c, Q, E⟩ := X
  obtain ⟨hx, hb, hml, hown, hts, hO, hlk, hrt, hfr, hlo, hce, hsl, hbs, -⟩ := C
  intro H locs ls hR hS hl
  have ha := sz_of hR ha
  have hq := ws_at (E := E) ha
  rw [cE_r hk (by omega)] at hq
  rw [List.map_cons, List.map_cons, List.map_cons, cv_ref hR ha]
  obtain ⟨hin, hj2⟩ := inb_vp hj
  subst hj2
  refine va_WaastN (C := "SteamNations$Text") hx hb (hR.2.2.2 a _ hq) ((hO.1.2 4 _ rfl).1 _ (fun j => va_rf ((aO h a j).map (ra E)))) (fun q => by cases q) (by show ¬ (i < 0 ∨ (arrV _ _ _).slots.size ≤ _); rw [arrV_size]; exact hin) rfl rfl hd fun H1 e1 z oq => ?_
  refine next H1 _ ls (Rl_put hR ha rfl z cE_sO oq ?_) (hS.put z oq (Nat.le_add_right _ _)) hl
  rw [cE_r hk (by omega), aO_sO]
  show H1[E.2.2.1 + a]? = some (vp_cell _ _)
  rw [e1, vp_cell_q, vp_cell_q, arrV_store]
  congr 2
  funext q
  by_cases hq : q = i.toNatClampNeg
  · subst hq; simp [updV, va_up, va_rf]
  · simp [updV, va_up, hq]
theorem g_aastT {a j v : Nat} {on : Option Nat} {fs : List (Option Nat)} {i : Int32} (C : Cx X own cc nL rt D mc ms) (hd : decode cc pc = .ok (.aastore, 1)) (hk : kd a = .inr (4, on)) (ha : a < 110 ∨ a < sz h) (hj : inb i (alen h a on) = some j) (hkv : kd v = .inl (9, fs)) (hv : v < 110 ∨ v < sz h) (next : G X (sO h a j (some v)) k n (pc + 1) lv st) : G X h k n pc lv (.ref v :: .int i :: .ref a :: st) := by
  obtain ⟨p, l, e, R, s, m, args, below, meth, c, Q, E⟩ := X
  obtain ⟨hx, hb, hml, hown, hts, hO, hlk, hrt, hfr, hlo, hce, hsl, hbs, -⟩ := C
  intro H locs ls hR hS hl
  have ha := sz_of hR ha
  have hv := sz_of hR hv
  have hq := ws_at (E := E) ha
  have hqv := ws_at (E := E) hv
  rw [cE_r hk (by omega)] at hq
  rw [cE_o hkv] at hqv
  rw [List.map_cons, List.map_cons, List.map_cons, cv_ref hR ha, cv_ref hR hv]
  obtain ⟨hin, hj2⟩ := inb_vp hj
  subst hj2
  have hlt : i.toNatClampNeg < on.getD (ln h a) := Nat.not_le.mp fun q => hin (Or.inr q)
  have h0 : ¬ i < 0 := fun q => hin (Or.inl q)
  obtain ⟨r', hr', cellV, g1, g2, g3, -⟩ := hR.2.2.2 v _ hqv
  have hcls := (hO.1.1 9 _ rfl).2
  obtain ⟨kA, comp, k1, k2, k3, -⟩ := (hO.1.2 4 _ rfl).2
  have hcomp : comp = E.1.1 9 := Option.some.inj (k3.symm.trans hcls.1)
  subst hcomp
  obtain ⟨kC, hkC, -⟩ := hcls.2
  refine W.aast hx hb (hR.2.2.2 a _ hq) (fun q h => by cases h) (fun h => by cases h) k1 k2 rfl hkC ⟨h0, by show _ < (arrV _ _ _).slots.size; rw [arrV_size]; exact hlt⟩ g1 (fun q h => by rw [g3] at h; cases h) (by rw [g2]; exact hkC) (by rw [g2]; exact va_assign hcls) rfl rfl hd fun H1 e1 z oq => ?_
  refine next H1 _ ls (Rl_put hR ha rfl z cE_sO oq ?_) (hS.put z oq (Nat.le_add_right _ _)) hl
  rw [cE_r hk (by omega), aO_sO]
  show H1[E.2.2.1 + a]? = some (vp_cell _ _)
  rw [e1, vp_cell_q, vp_cell_q, arrV_store]
  congr 2
  funext q
  by_cases hq : q = i.toNatClampNeg
  · subst hq; simp [updV, va_up, va_rf, ra_lt hv hR.2.2.1]
  · simp [updV, va_up, hq]
/-! statics: abstract addresses from 1000000 on -/
theorem g_gsB (C : Cx X "SteamNations$Steam" cc nL rt D mc ms) (hd : decode cc pc = .ok (.getstatic 96, 3)) (next : G X h k n (pc + 3) lv (.ref 1000000 :: st)) : G X h k n pc lv st := by
  obtain ⟨p, l, e, R, s, m, args, below, meth, c, Q, E⟩ := X
  obtain ⟨hx, hb, hml, hown, hts, hO, hlk, hrt, hfr, hlo, hce, hsl, hbs, -⟩ := C
  intro H locs ls hR hS hl
  exact va_getsN hx hb hO.2.2.2.1 hS hown (va_Nw.use rfl (hO.2.1 ("SteamNations$Steam", 96, "SteamNations", "BESIDE", "[I", "SteamNations") (by decide))) (fun _ h => h) hd (next H locs ls hR hS hl)
theorem g_gsM {idx : Nat} (C : Cx X "SteamNations" cc nL rt D mc ms) (hd : decode cc pc = .ok (.getstatic idx, 3)) (hc : Cond.fieldLink "SteamNations" idx "SteamNations" "MOST_OF_TERM" "[I" ∈ gw) (next : G X h k n (pc + 3) lv (.ref 1000001 :: st)) : G X h k n pc lv st := by
  obtain ⟨p, l, e, R, s, m, args, below, meth, c, Q, E⟩ := X
  obtain ⟨hx, hb, hml, hown, hts, hO, hlk, hrt, hfr, hlo, hce, hsl, hbs, -⟩ := C
  intro H locs ls hR hS hl
  exact va_gets hx hb hO.2.2.2.2.2.1 hS hown (hts _ hc) (fun _ h => h) hd (next H locs ls hR hS hl)
theorem g_tldB {i : Int32} {j : Nat} (C : Cx X own cc nL rt D mc ms) (hd : decode cc pc = .ok (.iaload, 1)) (hj : inb i 36 = some j) (next : G X h k n (pc + 1) lv (.int (bsT.getD j 0) :: st)) : G X h k n pc lv (.int i :: .ref 1000000 :: st) := by
  obtain ⟨p, l, e, R, s, m, args, below, meth, c, Q, E⟩ := X
  obtain ⟨hx, hb, hml, hown, hts, hO, hlk, hrt, hfr, hlo, hce, hsl, hbs, -⟩ := C
  intro H locs ls hR hS hl
  obtain ⟨hin, hj2⟩ := inb_vp hj
  subst hj2
  exact va_ti hx hb hO.2.2.2.2.1 hS hin rfl hd (next H locs ls hR hS hl)
theorem g_tldM {i : Int32} {j : Nat} (C : Cx X own cc nL rt D mc ms) (hd : decode cc pc = .ok (.iaload, 1)) (hj : inb i 3 = some j) (next : G X h k n (pc + 1) lv (.int (moT.getD j 0) :: st)) : G X h k n pc lv (.int i :: .ref 1000001 :: st) := by
  obtain ⟨p, l, e, R, s, m, args, below, meth, c, Q, E⟩ := X
  obtain ⟨hx, hb, hml, hown, hts, hO, hlk, hrt, hfr, hlo, hce, hsl, hbs, -⟩ := C
  intro H locs ls hR hS hl
  obtain ⟨hin, hj2⟩ := inb_vp hj
  subst hj2
  exact va_ti hx hb hO.2.2.2.2.2.2.1 hS hin rfl hd (next H locs ls hR hS hl)
/-! calls -/
theorem gw_good {w : Cond} (h : w ∈ gw) : goodWord w = true := (List.mem_filter.mp h).2
theorem gw_in (y : MethodName) {bytes : ByteArray} {mL : Nat} {ret : Option FieldType} (hc : Cond.code y bytes mL ret ∈ gw) : GoodIn gw (.code y bytes mL ret :: gw) := by
  intro w hw
  rcases List.mem_cons.mp hw with rfl | hw
  · exact ⟨hc, good_of_word (gw_good hc)⟩
  · exact ⟨hw, good_of_word (gw_good hw)⟩
/-- behind a call -/
theorem g_run {p : Program} {l : Launch} {e : Env} {R : Room} {s : State} {m : MethodId} {args : Array Value} {below : List Frame} {meth : Method} {c : Code} {Q : State → Prop} {E : Ex} {H : Heap} {locs : List Loc} {mc' ms' : Nat} {ls : Array Slot} {st0 rest : List Value} {aa : Array Value} {r : Option Value} {h1 : Hp}
    (hr : va_Run p l e R s m args below meth c H locs k n mc' ms' (F0 m pc ls st0) (rest.map (cv E)) (rQ E r h1 aa) (eA E)) (hS : va_S (eA E) s.heap H locs) (hl : lv_has ls c.maxLocals (cl2 E lv))
    (next : G (p, l, e, R, s, m, args, below, meth, c, Q, E) h1 (k + mc') (n + ms') (pc + 3) lv (r.toList ++ rest)) : W p l e R s m args below meth c H locs k n Q (F0 m pc ls st0) := by
  intro T hT X0
  obtain ⟨v, st₀, t, T', L, h0, X', hL, e1, e2, ⟨hv, hR1, hz, hk⟩, stp⟩ := hr T hT X0
  have hv : v = r.map (cv E) := by cases hv; rfl
  subst hv
  rw [h0] at hz hk
  have hS1 : va_S (eA E) s.heap T'.heap (locs ++ L) := by
    refine ⟨Nat.le_trans hS.1 (by rw [e1]; exact hz), fun q g1 g2 => ?_, fun q hq => ?_⟩
    · rw [e1, hk q (Nat.lt_of_lt_of_le g1 hS.1) g2]
      exact hS.2.1 q g1 g2
    · rcases List.mem_append.mp hq with h | h
      · exact hS.2.2 q h
      · exact hL q h
  obtain ⟨t2, a1, b1⟩ := next T'.heap (locs ++ L) ls (by rw [e1]; exact hR1) hS1 hl T' rfl X'
  have e3 : (r.toList ++ rest).map (cv E) = (r.map (cv E)).toList ++ rest.map (cv E) := by cases r <;> rfl
  rw [e3] at a1
  exact ⟨t2, stp t2 a1, b1⟩
def VLk (own : String) (idx : Nat) (y : MethodName) (bytes : ByteArray) (mL : Nat) (ret : Option FieldType) (ci nA : Nat) : Prop :=
  (cls[ci]?).map (·.1) = some y.cls ∧ Cond.methodLink own idx y ∈ gw ∧ Cond.instanceMethod y ∈ gw ∧ Cond.selects y.cls y y ∈ gw ∧ Cond.initialized y.cls ∈ gw ∧ Cond.code y bytes mL ret ∈ gw ∧ (y.cls ≠ "java/lang/invoke/MethodHandle" ∧ y.cls ≠ "java/lang/invoke/VarHandle" ∧ (parseMethodDescriptor y.desc).map (fun d => d.parameters.length) = some nA) ∧ mL ≤ 40
def SLk (own : String) (idx : Nat) (y : MethodName) (bytes : ByteArray) (mL : Nat) (ret : Option FieldType) (nA : Nat) : Prop :=
  Cond.methodLink own idx y ∈ gw ∧ Cond.static y ∈ gw ∧ Cond.initialized y.cls ∈ gw ∧ Cond.code y bytes mL ret ∈ gw ∧ (y.cls ≠ "java/lang/invoke/MethodHandle" ∧ y.cls ≠ "java/lang/invoke/VarHandle" ∧ (parseMethodDescriptor y.desc).map (fun d => d.parameters.length) = some nA) ∧ mL ≤ 40
def NLk (own : String) (idx : Nat) (y : MethodName) (bytes : ByteArray) (mL : Nat) (ret : Option FieldType) (nA : Nat) : Prop :=
  (own, idx, y, "SteamNations") ∈ nwM ∧ Cond.static y ∈ gw ∧ Cond.initialized y.cls ∈ gw ∧ Cond.code y bytes mL ret ∈ gw ∧ (y.cls ≠ "java/lang/invoke/MethodHandle" ∧ y.cls ≠ "java/lang/invoke/VarHandle" ∧ (parseMethodDescriptor y.desc).map (fun d => d.parameters.length) = some nA) ∧ mL ≤ 40
theorem aPc_at {E : Ex} {s U : State} {H : Heap} {locs : List Loc} {av : List Value} (hR : Rl E h H) (hO : Ok E s) (hS : va_S (eA E) s.heap H locs) (hbs : E.2.2.1 ≤ s.heap.size) (hU : U.heap = H) (hW : s.WarmedH U.vm) : aPc E av h (av.map (cv E)).toArray U := by
  refine ⟨rfl, by rw [hU]; exact hR, hO.mv hW (fun a g1 g2 => by rw [hU]; exact hS.2.1 a g1 g2), by rw [hU]; exact Nat.le_trans hbs hS.1⟩
theorem g_callV {y : MethodName} {bytes : ByteArray} {mL ci nA D' mc' ms' idx a : Nat} {ret : Option FieldType} {fs : List (Option Nat)} {As rest : List Value} {r : Option Value} {h1 : Hp} (C : Cx X own cc nL rt D mc ms) (hd : decode cc pc = .ok (.invokevirtual idx, 3)) (L : VLk own idx y bytes mL ret ci nA) (hm : MetA y bytes mL ret D' mc' ms' (.ref a :: As) h r h1) (hk : kd a = .inl (ci, fs)) (ha : a < 110 ∨ a < sz h) (hst : st = As.reverse ++ .ref a :: rest) (hn : As.length = nA) (hcat : (rest.map fun v => v.category).sum ≤ 8) (hD : D' + 1 ≤ D) (hc : k + mc' ≤ mc ∧ n + ms' ≤ ms) (next : G X h1 (k + mc') (n + ms') (pc + 3) lv (r.toList ++ rest)) : G X h k n pc lv st := by
  obtain ⟨p, l, e, R, s, m, args, below, meth, c, Q, E⟩ := X
  obtain ⟨hx, hb, hml, hown, hts, hO, hlk, hrt, hfr, hlo, hce, hsl, hbs, -⟩ := C
  obtain ⟨l1, l2, l3, l4, l5, l6, l7, l8⟩ := L
  intro H locs ls hR hS hl
  have ha := sz_of hR ha
  have hq := ws_at (E := E) ha
  rw [cE_o hk] at hq
  obtain ⟨q, hq1⟩ : ∃ q, cls[ci]? = some q := by
    cases hq2 : cls[ci]? with
    | none => rw [hq2] at l1; cases l1
    | some q => exact ⟨q, rfl⟩
  have hqc : q.1 = y.cls := by rw [hq1] at l1; exact Option.some.inj l1
  have hcat2 : ((rest.map (cv E)).map fun v => v.category).sum ≤ 8 := by
    rw [List.map_map]
    have e9 : ((fun v : Value => v.category) ∘ cv E) = fun v : Value => v.category := by funext v; exact cv_cat E v
    rw [e9]
    exact hcat
  have hrecv := va_recv hO.1 hR.2.2.2 hq1 hq
  rw [hqc] at hrecv
  have hrun := va_runV (p := p) (e := e) (below := below) (meth := meth) (locs := locs) (cells := k) (slots := n) (As := As.map (cv E)) (rest := rest.map (cv E)) (b := E.2.2.1 + a) (g := F0 m pc ls (st.map (cv E))) (index := idx) (C := y.cls) ⟨hx, hb, rfl, hown, hts⟩ (hm l E)
    (R := R) ⟨callB_of nA hts (gw_in y l6) rfl rfl rfl (hts _ l5) (hts _ l2) l7 ⟨by show D' + 1 ≤ _; omega, by show 8 + (mL + 11) + 60 * D' ≤ _; omega⟩, hts _ l3, hts _ l4⟩
    (H := H) ⟨aPc_blind E _ h, hrecv, fun U hU hW => by
      have e8 : (Value.ref (E.2.2.1 + a) :: As.map (cv E)).toArray = ((Value.ref a :: As).map (cv E)).toArray := by rw [List.map_cons, cv_ref hR ha]
      rw [e8]
      exact aPc_at hR hO hS hbs hU hW⟩
    rfl (by rw [List.length_map]; exact hn) hl.1 (by rw [hst]; simp [cv_ref hR ha]) (lv_room hcat2) hd ⟨by omega, by omega⟩
  exact g_run hrun hS hl next
theorem g_callS {y : MethodName} {bytes : ByteArray} {mL nA D' mc' ms' idx : Nat} {ret : Option FieldType} {As rest : List Value} {r : Option Value} {h1 : Hp} (C : Cx X own cc nL rt D mc ms) (hd : decode cc pc = .ok (.invokestatic idx, 3)) (L : SLk own idx y bytes mL ret nA) (hm : MetA y bytes mL ret D' mc' ms' As h r h1) (hst : st = As.reverse ++ rest) (hn : As.length = nA) (hcat : (rest.map fun v => v.category).sum ≤ 8) (hD : D' + 1 ≤ D) (hc : k + mc' ≤ mc ∧ n + ms' ≤ ms) (next : G X h1 (k + mc') (n + ms') (pc + 3) lv (r.toList ++ rest)) : G X h k n pc lv st := by
  obtain ⟨p, l, e, R, s, m, args, below, meth, c, Q, E⟩ := X
  obtain ⟨hx, hb, hml, hown, hts, hO, hlk, hrt, hfr, hlo, hce, hsl, hbs, -⟩ := C
  obtain ⟨l2, l3, l5, l6, l7, l8⟩ := L
  intro H locs ls hR hS hl
  have hcat2 : ((rest.map (cv E)).map fun v => v.category).sum ≤ 8 := by
    rw [List.map_map]
    have e9 : ((fun v : Value => v.category) ∘ cv E) = fun v : Value => v.category := by funext v; exact cv_cat E v
    rw [e9]
    exact hcat
  have hrun := va_runS (p := p) (e := e) (below := below) (meth := meth) (locs := locs) (cells := k) (slots := n) (As := As.map (cv E)) (rest := rest.map (cv E)) (g := F0 m pc ls (st.map (cv E))) (index := idx) ⟨hx, hb, rfl, hown, hts⟩ (hm l E)
    (R := R) ⟨callB_of nA hts (gw_in y l6) rfl rfl rfl (hts _ l5) (hts _ l2) l7 ⟨by show D' + 1 ≤ _; omega, by show 8 + (mL + 11) + 60 * D' ≤ _; omega⟩, hts _ l3⟩
    (H := H) ⟨aPc_blind E _ h, fun U hU hW => aPc_at hR hO hS hbs hU hW⟩
    rfl (by rw [List.length_map]; exact hn) hl.1 (by rw [hst]; simp) (lv_room hcat2) hd ⟨by omega, by omega⟩
  exact g_run hrun hS hl next
theorem g_callN {y : MethodName} {bytes : ByteArray} {mL nA D' mc' ms' idx : Nat} {ret : Option FieldType} {As rest : List Value} {r : Option Value} {h1 : Hp} (C : Cx X own cc nL rt D mc ms) (hd : decode cc pc = .ok (.invokestatic idx, 3)) (L : NLk own idx y bytes mL ret nA) (hm : MetA y bytes mL ret D' mc' ms' As h r h1) (hst : st = As.reverse ++ rest) (hn : As.length = nA) (hcat : (rest.map fun v => v.category).sum ≤ 8) (hD : D' + 1 ≤ D) (hc : k + mc' ≤ mc ∧ n + ms' ≤ ms) (next : G X h1 (k + mc') (n + ms') (pc + 3) lv (r.toList ++ rest)) : G X h k n pc lv st := by
  obtain ⟨p, l, e, R, s, m, args, below, meth, c, Q, E⟩ := X
  obtain ⟨hx, hb, hml, hown, hts, hO, hlk, hrt, hfr, hlo, hce, hsl, hbs, -⟩ := C
  obtain ⟨l2, l3, l5, l6, l7, l8⟩ := L
  intro H locs ls hR hS hl
  have hcat2 : ((rest.map (cv E)).map fun v => v.category).sum ≤ 8 := by
    rw [List.map_map]
    have e9 : ((fun v : Value => v.category) ∘ cv E) = fun v : Value => v.category := by funext v; exact cv_cat E v
    rw [e9]
    exact hcat
  have hrun := va_runSN (p := p) (e := e) (below := below) (meth := meth) (locs := locs) (cells := k) (slots := n) (As := As.map (cv E)) (rest := rest.map (cv E)) (g := F0 m pc ls (st.map (cv E))) (index := idx) ⟨hx, hb, rfl, hown, hts⟩ (hm l E)
    (R := R) ⟨va_cnB nA hts (gw_in y l6) rfl rfl rfl (hO.2.2.1 _ l2) (hts _ l5) l7 ⟨by show D' + 1 ≤ _; omega, by show 8 + (mL + 11) + 60 * D' ≤ _; omega⟩, hts _ l3, trivial⟩
    (H := H) ⟨aPc_blind E _ h, fun U hU hW => aPc_at hR hO hS hbs hU hW⟩
    rfl (by rw [List.length_map]; exact hn) hl.1 (by rw [hst]; simp) (lv_room hcat2) hd ⟨by omega, by omega⟩
  exact g_run hrun hS hl next
end GC
end
