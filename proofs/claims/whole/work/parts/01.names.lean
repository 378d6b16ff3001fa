-- ===== PART A: goes FIRST, ahead of the names: the tables' words, and 'selects' of the private methods out of them =====
/-- a private method of a class that the tables say can be made, by its rows of tables_1 -/
def lw_okq (q : MethodName × Nat) : Prop := (q.1.cls ≠ "java/lang/invoke/MethodHandle" ∧ q.1.cls ≠ "java/lang/invoke/VarHandle") ∧ Cond.instantiable q.1.cls q.2 ∈ tables_1 ∧ Cond.privateMethod q.1 ∈ tables_1 ∧ Cond.instanceMethod q.1 ∈ tables_1
theorem lw_p0 : lw_okq (⟨"ShortPost", "feedNumber", "(I)V"⟩, 13) := ⟨⟨by decide +kernel, by decide +kernel⟩, List.mem_of_getElem? (i := 17) (by decide +kernel), List.mem_of_getElem? (i := 399) (by decide +kernel), List.mem_of_getElem? (i := 400) (by decide +kernel)⟩
theorem lw_p1 : lw_okq (⟨"ShortPost", "draftPiece", "()I"⟩, 13) := ⟨⟨by decide +kernel, by decide +kernel⟩, List.mem_of_getElem? (i := 17) (by decide +kernel), List.mem_of_getElem? (i := 445) (by decide +kernel), List.mem_of_getElem? (i := 446) (by decide +kernel)⟩
theorem lw_p2 : lw_okq (⟨"ShortPost$Packer", "begin", "(LShortPost$Bytes;LShortPost$Pieces;)V"⟩, 12) := ⟨⟨by decide +kernel, by decide +kernel⟩, List.mem_of_getElem? (i := 143) (by decide +kernel), List.mem_of_getElem? (i := 528) (by decide +kernel), List.mem_of_getElem? (i := 529) (by decide +kernel)⟩
theorem lw_p3 : lw_okq (⟨"ShortPost$Packer", "followRow", "(I)V"⟩, 12) := ⟨⟨by decide +kernel, by decide +kernel⟩, List.mem_of_getElem? (i := 143) (by decide +kernel), List.mem_of_getElem? (i := 539) (by decide +kernel), List.mem_of_getElem? (i := 540) (by decide +kernel)⟩
theorem lw_p4 : lw_okq (⟨"ShortPost$Packer", "followLetter", "(I)V"⟩, 12) := ⟨⟨by decide +kernel, by decide +kernel⟩, List.mem_of_getElem? (i := 143) (by decide +kernel), List.mem_of_getElem? (i := 549) (by decide +kernel), List.mem_of_getElem? (i := 550) (by decide +kernel)⟩
theorem lw_p5 : lw_okq (⟨"ShortPost$Packer", "tryOwn", "(I)V"⟩, 12) := ⟨⟨by decide +kernel, by decide +kernel⟩, List.mem_of_getElem? (i := 143) (by decide +kernel), List.mem_of_getElem? (i := 553) (by decide +kernel), List.mem_of_getElem? (i := 554) (by decide +kernel)⟩
theorem lw_p6 : lw_okq (⟨"ShortPost$Packer", "tryPart", "(IIIII)V"⟩, 12) := ⟨⟨by decide +kernel, by decide +kernel⟩, List.mem_of_getElem? (i := 143) (by decide +kernel), List.mem_of_getElem? (i := 557) (by decide +kernel), List.mem_of_getElem? (i := 558) (by decide +kernel)⟩
theorem lw_p7 : lw_okq (⟨"ShortPost$Packer", "tryCopies", "(II[III)V"⟩, 12) := ⟨⟨by decide +kernel, by decide +kernel⟩, List.mem_of_getElem? (i := 143) (by decide +kernel), List.mem_of_getElem? (i := 562) (by decide +kernel), List.mem_of_getElem? (i := 563) (by decide +kernel)⟩
theorem lw_p8 : lw_okq (⟨"ShortPost$Packer", "tryWhole", "(I)V"⟩, 12) := ⟨⟨by decide +kernel, by decide +kernel⟩, List.mem_of_getElem? (i := 143) (by decide +kernel), List.mem_of_getElem? (i := 567) (by decide +kernel), List.mem_of_getElem? (i := 568) (by decide +kernel)⟩
theorem lw_p9 : lw_okq (⟨"ShortPost$Writer", "put", "(II)V"⟩, 2) := ⟨⟨by decide +kernel, by decide +kernel⟩, List.mem_of_getElem? (i := 194) (by decide +kernel), List.mem_of_getElem? (i := 577) (by decide +kernel), List.mem_of_getElem? (i := 578) (by decide +kernel)⟩
theorem lw_p10 : lw_okq (⟨"ShortPost$Writer", "putGamma", "(I)V"⟩, 2) := ⟨⟨by decide +kernel, by decide +kernel⟩, List.mem_of_getElem? (i := 194) (by decide +kernel), List.mem_of_getElem? (i := 586) (by decide +kernel), List.mem_of_getElem? (i := 587) (by decide +kernel)⟩
theorem lw_p11 : lw_okq (⟨"ShortPost$Writer", "putPart", "(LShortPost$Bytes;LShortPost$Pieces;LShortPost$Packer;I)V"⟩, 2) := ⟨⟨by decide +kernel, by decide +kernel⟩, List.mem_of_getElem? (i := 194) (by decide +kernel), List.mem_of_getElem? (i := 591) (by decide +kernel), List.mem_of_getElem? (i := 592) (by decide +kernel)⟩
theorem lw_p12 : lw_okq (⟨"ShortPost$Writer", "putBytes", "(LShortPost$Bytes;II)V"⟩, 2) := ⟨⟨by decide +kernel, by decide +kernel⟩, List.mem_of_getElem? (i := 194) (by decide +kernel), List.mem_of_getElem? (i := 607) (by decide +kernel), List.mem_of_getElem? (i := 608) (by decide +kernel)⟩
theorem lw_p13 : lw_okq (⟨"ShortPost$Packer", "longestWhole", "()I"⟩, 12) := ⟨⟨by decide +kernel, by decide +kernel⟩, List.mem_of_getElem? (i := 143) (by decide +kernel), List.mem_of_getElem? (i := 625) (by decide +kernel), List.mem_of_getElem? (i := 626) (by decide +kernel)⟩
theorem lw_p14 : lw_okq (⟨"ShortPost$Packer", "greedyFrom", "(II)I"⟩, 12) := ⟨⟨by decide +kernel, by decide +kernel⟩, List.mem_of_getElem? (i := 143) (by decide +kernel), List.mem_of_getElem? (i := 629) (by decide +kernel), List.mem_of_getElem? (i := 630) (by decide +kernel)⟩
theorem lw_p15 : lw_okq (⟨"ShortPost$Reader", "readBook", "()LShortPost$Book;"⟩, 8) := ⟨⟨by decide +kernel, by decide +kernel⟩, List.mem_of_getElem? (i := 208) (by decide +kernel), List.mem_of_getElem? (i := 661) (by decide +kernel), List.mem_of_getElem? (i := 662) (by decide +kernel)⟩
def lw_privs_1 : List (MethodName × Nat) := [(⟨"ShortPost", "feedNumber", "(I)V"⟩, 13), (⟨"ShortPost", "draftPiece", "()I"⟩, 13), (⟨"ShortPost$Packer", "begin", "(LShortPost$Bytes;LShortPost$Pieces;)V"⟩, 12), (⟨"ShortPost$Packer", "followRow", "(I)V"⟩, 12), (⟨"ShortPost$Packer", "followLetter", "(I)V"⟩, 12), (⟨"ShortPost$Packer", "tryOwn", "(I)V"⟩, 12), (⟨"ShortPost$Packer", "tryPart", "(IIIII)V"⟩, 12), (⟨"ShortPost$Packer", "tryCopies", "(II[III)V"⟩, 12), (⟨"ShortPost$Packer", "tryWhole", "(I)V"⟩, 12), (⟨"ShortPost$Writer", "put", "(II)V"⟩, 2), (⟨"ShortPost$Writer", "putGamma", "(I)V"⟩, 2), (⟨"ShortPost$Writer", "putPart", "(LShortPost$Bytes;LShortPost$Pieces;LShortPost$Packer;I)V"⟩, 2), (⟨"ShortPost$Writer", "putBytes", "(LShortPost$Bytes;II)V"⟩, 2), (⟨"ShortPost$Packer", "longestWhole", "()I"⟩, 12), (⟨"ShortPost$Packer", "greedyFrom", "(II)I"⟩, 12), (⟨"ShortPost$Reader", "readBook", "()LShortPost$Book;"⟩, 8)]
theorem lw_r1 : ∀ q ∈ lw_privs_1, lw_okq q := List.forall_mem_cons.mpr ⟨lw_p0, List.forall_mem_cons.mpr ⟨lw_p1, List.forall_mem_cons.mpr ⟨lw_p2, List.forall_mem_cons.mpr ⟨lw_p3, List.forall_mem_cons.mpr ⟨lw_p4, List.forall_mem_cons.mpr ⟨lw_p5, List.forall_mem_cons.mpr ⟨lw_p6, List.forall_mem_cons.mpr ⟨lw_p7, List.forall_mem_cons.mpr ⟨lw_p8, List.forall_mem_cons.mpr ⟨lw_p9, List.forall_mem_cons.mpr ⟨lw_p10, List.forall_mem_cons.mpr ⟨lw_p11, List.forall_mem_cons.mpr ⟨lw_p12, List.forall_mem_cons.mpr ⟨lw_p13, List.forall_mem_cons.mpr ⟨lw_p14, List.forall_mem_cons.mpr ⟨lw_p15, fun _ h => absurd h List.not_mem_nil⟩⟩⟩⟩⟩⟩⟩⟩⟩⟩⟩⟩⟩⟩⟩⟩
theorem lw_p16 : lw_okq (⟨"ShortPost$Reader", "readBits", "(I)I"⟩, 8) := ⟨⟨by decide +kernel, by decide +kernel⟩, List.mem_of_getElem? (i := 208) (by decide +kernel), List.mem_of_getElem? (i := 665) (by decide +kernel), List.mem_of_getElem? (i := 666) (by decide +kernel)⟩
theorem lw_p17 : lw_okq (⟨"ShortPost$Reader", "note", "(II)V"⟩, 8) := ⟨⟨by decide +kernel, by decide +kernel⟩, List.mem_of_getElem? (i := 208) (by decide +kernel), List.mem_of_getElem? (i := 669) (by decide +kernel), List.mem_of_getElem? (i := 670) (by decide +kernel)⟩
theorem lw_p18 : lw_okq (⟨"ShortPost$Reader", "readSize", "()V"⟩, 8) := ⟨⟨by decide +kernel, by decide +kernel⟩, List.mem_of_getElem? (i := 208) (by decide +kernel), List.mem_of_getElem? (i := 675) (by decide +kernel), List.mem_of_getElem? (i := 676) (by decide +kernel)⟩
theorem lw_p19 : lw_okq (⟨"ShortPost$Reader", "readGamma", "()I"⟩, 8) := ⟨⟨by decide +kernel, by decide +kernel⟩, List.mem_of_getElem? (i := 208) (by decide +kernel), List.mem_of_getElem? (i := 679) (by decide +kernel), List.mem_of_getElem? (i := 680) (by decide +kernel)⟩
theorem lw_p20 : lw_okq (⟨"ShortPost$Reader", "readPart", "(LShortPost$Book;)V"⟩, 8) := ⟨⟨by decide +kernel, by decide +kernel⟩, List.mem_of_getElem? (i := 208) (by decide +kernel), List.mem_of_getElem? (i := 683) (by decide +kernel), List.mem_of_getElem? (i := 684) (by decide +kernel)⟩
theorem lw_p21 : lw_okq (⟨"ShortPost$Reader", "readOwn", "(I)V"⟩, 8) := ⟨⟨by decide +kernel, by decide +kernel⟩, List.mem_of_getElem? (i := 208) (by decide +kernel), List.mem_of_getElem? (i := 687) (by decide +kernel), List.mem_of_getElem? (i := 688) (by decide +kernel)⟩
theorem lw_p22 : lw_okq (⟨"ShortPost$Reader", "readTold", "(ILShortPost$Pieces;)V"⟩, 8) := ⟨⟨by decide +kernel, by decide +kernel⟩, List.mem_of_getElem? (i := 208) (by decide +kernel), List.mem_of_getElem? (i := 692) (by decide +kernel), List.mem_of_getElem? (i := 693) (by decide +kernel)⟩
theorem lw_p23 : lw_okq (⟨"ShortPost$Reader", "takeCopy", "(ILShortPost$Bytes;III)V"⟩, 8) := ⟨⟨by decide +kernel, by decide +kernel⟩, List.mem_of_getElem? (i := 208) (by decide +kernel), List.mem_of_getElem? (i := 701) (by decide +kernel), List.mem_of_getElem? (i := 702) (by decide +kernel)⟩
theorem lw_p24 : lw_okq (⟨"ShortPost$Reader", "readFar", "(I)V"⟩, 8) := ⟨⟨by decide +kernel, by decide +kernel⟩, List.mem_of_getElem? (i := 208) (by decide +kernel), List.mem_of_getElem? (i := 706) (by decide +kernel), List.mem_of_getElem? (i := 707) (by decide +kernel)⟩
theorem lw_p25 : lw_okq (⟨"ShortPost$Reader", "readWhole", "(ILShortPost$Book;)V"⟩, 8) := ⟨⟨by decide +kernel, by decide +kernel⟩, List.mem_of_getElem? (i := 208) (by decide +kernel), List.mem_of_getElem? (i := 710) (by decide +kernel), List.mem_of_getElem? (i := 711) (by decide +kernel)⟩
theorem lw_p26 : lw_okq (⟨"ShortPost$Reader", "readFill", "()V"⟩, 8) := ⟨⟨by decide +kernel, by decide +kernel⟩, List.mem_of_getElem? (i := 208) (by decide +kernel), List.mem_of_getElem? (i := 717) (by decide +kernel), List.mem_of_getElem? (i := 718) (by decide +kernel)⟩
theorem lw_p27 : lw_okq (⟨"ShortPost", "addSample", "()I"⟩, 13) := ⟨⟨by decide +kernel, by decide +kernel⟩, List.mem_of_getElem? (i := 17) (by decide +kernel), List.mem_of_getElem? (i := 729) (by decide +kernel), List.mem_of_getElem? (i := 730) (by decide +kernel)⟩
theorem lw_p28 : lw_okq (⟨"ShortPost$Trainer", "findAt", "(LShortPost$Bytes;I)V"⟩, 11) := ⟨⟨by decide +kernel, by decide +kernel⟩, List.mem_of_getElem? (i := 243) (by decide +kernel), List.mem_of_getElem? (i := 751) (by decide +kernel), List.mem_of_getElem? (i := 752) (by decide +kernel)⟩
theorem lw_p29 : lw_okq (⟨"ShortPost$Trainer", "longestAlike", "(LShortPost$Bytes;ILShortPost$Bytes;)I"⟩, 11) := ⟨⟨by decide +kernel, by decide +kernel⟩, List.mem_of_getElem? (i := 243) (by decide +kernel), List.mem_of_getElem? (i := 755) (by decide +kernel), List.mem_of_getElem? (i := 756) (by decide +kernel)⟩
theorem lw_p30 : lw_okq (⟨"ShortPost$Trainer", "insertProbe", "()V"⟩, 11) := ⟨⟨by decide +kernel, by decide +kernel⟩, List.mem_of_getElem? (i := 243) (by decide +kernel), List.mem_of_getElem? (i := 768) (by decide +kernel), List.mem_of_getElem? (i := 769) (by decide +kernel)⟩
theorem lw_p31 : lw_okq (⟨"ShortPost$Trainer", "gainOf", "(LShortPost$Candidate;ZI)I"⟩, 11) := ⟨⟨by decide +kernel, by decide +kernel⟩, List.mem_of_getElem? (i := 243) (by decide +kernel), List.mem_of_getElem? (i := 798) (by decide +kernel), List.mem_of_getElem? (i := 799) (by decide +kernel)⟩
def lw_privs_2 : List (MethodName × Nat) := [(⟨"ShortPost$Reader", "readBits", "(I)I"⟩, 8), (⟨"ShortPost$Reader", "note", "(II)V"⟩, 8), (⟨"ShortPost$Reader", "readSize", "()V"⟩, 8), (⟨"ShortPost$Reader", "readGamma", "()I"⟩, 8), (⟨"ShortPost$Reader", "readPart", "(LShortPost$Book;)V"⟩, 8), (⟨"ShortPost$Reader", "readOwn", "(I)V"⟩, 8), (⟨"ShortPost$Reader", "readTold", "(ILShortPost$Pieces;)V"⟩, 8), (⟨"ShortPost$Reader", "takeCopy", "(ILShortPost$Bytes;III)V"⟩, 8), (⟨"ShortPost$Reader", "readFar", "(I)V"⟩, 8), (⟨"ShortPost$Reader", "readWhole", "(ILShortPost$Book;)V"⟩, 8), (⟨"ShortPost$Reader", "readFill", "()V"⟩, 8), (⟨"ShortPost", "addSample", "()I"⟩, 13), (⟨"ShortPost$Trainer", "findAt", "(LShortPost$Bytes;I)V"⟩, 11), (⟨"ShortPost$Trainer", "longestAlike", "(LShortPost$Bytes;ILShortPost$Bytes;)I"⟩, 11), (⟨"ShortPost$Trainer", "insertProbe", "()V"⟩, 11), (⟨"ShortPost$Trainer", "gainOf", "(LShortPost$Candidate;ZI)I"⟩, 11)]
theorem lw_r2 : ∀ q ∈ lw_privs_2, lw_okq q := List.forall_mem_cons.mpr ⟨lw_p16, List.forall_mem_cons.mpr ⟨lw_p17, List.forall_mem_cons.mpr ⟨lw_p18, List.forall_mem_cons.mpr ⟨lw_p19, List.forall_mem_cons.mpr ⟨lw_p20, List.forall_mem_cons.mpr ⟨lw_p21, List.forall_mem_cons.mpr ⟨lw_p22, List.forall_mem_cons.mpr ⟨lw_p23, List.forall_mem_cons.mpr ⟨lw_p24, List.forall_mem_cons.mpr ⟨lw_p25, List.forall_mem_cons.mpr ⟨lw_p26, List.forall_mem_cons.mpr ⟨lw_p27, List.forall_mem_cons.mpr ⟨lw_p28, List.forall_mem_cons.mpr ⟨lw_p29, List.forall_mem_cons.mpr ⟨lw_p30, List.forall_mem_cons.mpr ⟨lw_p31, fun _ h => absurd h List.not_mem_nil⟩⟩⟩⟩⟩⟩⟩⟩⟩⟩⟩⟩⟩⟩⟩⟩
theorem lw_p32 : lw_okq (⟨"ShortPost$Trainer", "appendPiece", "(LShortPost$Candidate;)V"⟩, 11) := ⟨⟨by decide +kernel, by decide +kernel⟩, List.mem_of_getElem? (i := 243) (by decide +kernel), List.mem_of_getElem? (i := 802) (by decide +kernel), List.mem_of_getElem? (i := 803) (by decide +kernel)⟩
theorem lw_p33 : lw_okq (⟨"ShortPost$Wire", "put", "(ILShortPost$Book;ILShortPost$Bytes;)Z"⟩, 8) := ⟨⟨by decide +kernel, by decide +kernel⟩, List.mem_of_getElem? (i := 315) (by decide +kernel), List.mem_of_getElem? (i := 839) (by decide +kernel), List.mem_of_getElem? (i := 840) (by decide +kernel)⟩
theorem lw_p34 : lw_okq (⟨"ShortPost", "sendLetter", "(LShortPost$Book;)I"⟩, 13) := ⟨⟨by decide +kernel, by decide +kernel⟩, List.mem_of_getElem? (i := 17) (by decide +kernel), List.mem_of_getElem? (i := 886) (by decide +kernel), List.mem_of_getElem? (i := 887) (by decide +kernel)⟩
theorem lw_p35 : lw_okq (⟨"ShortPost$Wire", "answerOffer", "(LShortPost$Book;)Z"⟩, 8) := ⟨⟨by decide +kernel, by decide +kernel⟩, List.mem_of_getElem? (i := 315) (by decide +kernel), List.mem_of_getElem? (i := 912) (by decide +kernel), List.mem_of_getElem? (i := 913) (by decide +kernel)⟩
theorem lw_p36 : lw_okq (⟨"ShortPost$Wire", "hearYes", "(LShortPost$Book;)Z"⟩, 8) := ⟨⟨by decide +kernel, by decide +kernel⟩, List.mem_of_getElem? (i := 315) (by decide +kernel), List.mem_of_getElem? (i := 925) (by decide +kernel), List.mem_of_getElem? (i := 926) (by decide +kernel)⟩
theorem lw_p37 : lw_okq (⟨"ShortPost$Wire", "hearNo", "(LShortPost$Book;)V"⟩, 8) := ⟨⟨by decide +kernel, by decide +kernel⟩, List.mem_of_getElem? (i := 315) (by decide +kernel), List.mem_of_getElem? (i := 929) (by decide +kernel), List.mem_of_getElem? (i := 930) (by decide +kernel)⟩
theorem lw_p38 : lw_okq (⟨"ShortPost$Wire", "takeLetter", "(LShortPost$Message;)V"⟩, 8) := ⟨⟨by decide +kernel, by decide +kernel⟩, List.mem_of_getElem? (i := 315) (by decide +kernel), List.mem_of_getElem? (i := 933) (by decide +kernel), List.mem_of_getElem? (i := 934) (by decide +kernel)⟩
theorem lw_p39 : lw_okq (⟨"ShortPost$Book", "releaseIfSettled", "()V"⟩, 9) := ⟨⟨by decide +kernel, by decide +kernel⟩, List.mem_of_getElem? (i := 83) (by decide +kernel), List.mem_of_getElem? (i := 941) (by decide +kernel), List.mem_of_getElem? (i := 942) (by decide +kernel)⟩
theorem lw_p40 : lw_okq (⟨"ShortPostModel", "four", "(I)V"⟩, 64) := ⟨⟨by decide +kernel, by decide +kernel⟩, List.mem_of_getElem? (i := 978) (by decide +kernel), List.mem_of_getElem? (i := 1183) (by decide +kernel), List.mem_of_getElem? (i := 1184) (by decide +kernel)⟩
theorem lw_p41 : lw_okq (⟨"ShortPostModel", "addPiece", "(I[III)V"⟩, 64) := ⟨⟨by decide +kernel, by decide +kernel⟩, List.mem_of_getElem? (i := 978) (by decide +kernel), List.mem_of_getElem? (i := 1206) (by decide +kernel), List.mem_of_getElem? (i := 1207) (by decide +kernel)⟩
theorem lw_p42 : lw_okq (⟨"ShortPostModel", "rowLong", "(I)I"⟩, 64) := ⟨⟨by decide +kernel, by decide +kernel⟩, List.mem_of_getElem? (i := 978) (by decide +kernel), List.mem_of_getElem? (i := 1210) (by decide +kernel), List.mem_of_getElem? (i := 1211) (by decide +kernel)⟩
theorem lw_p43 : lw_okq (⟨"ShortPostModel", "areSuch", "(I)Z"⟩, 64) := ⟨⟨by decide +kernel, by decide +kernel⟩, List.mem_of_getElem? (i := 978) (by decide +kernel), List.mem_of_getElem? (i := 1218) (by decide +kernel), List.mem_of_getElem? (i := 1219) (by decide +kernel)⟩
theorem lw_p44 : lw_okq (⟨"ShortPostModel", "pieceLong", "(II)I"⟩, 64) := ⟨⟨by decide +kernel, by decide +kernel⟩, List.mem_of_getElem? (i := 978) (by decide +kernel), List.mem_of_getElem? (i := 1222) (by decide +kernel), List.mem_of_getElem? (i := 1223) (by decide +kernel)⟩
theorem lw_p45 : lw_okq (⟨"ShortPostModel", "end", "(II)I"⟩, 64) := ⟨⟨by decide +kernel, by decide +kernel⟩, List.mem_of_getElem? (i := 978) (by decide +kernel), List.mem_of_getElem? (i := 1226) (by decide +kernel), List.mem_of_getElem? (i := 1227) (by decide +kernel)⟩
theorem lw_p46 : lw_okq (⟨"ShortPostModel", "begin", "(II)I"⟩, 64) := ⟨⟨by decide +kernel, by decide +kernel⟩, List.mem_of_getElem? (i := 978) (by decide +kernel), List.mem_of_getElem? (i := 1230) (by decide +kernel), List.mem_of_getElem? (i := 1231) (by decide +kernel)⟩
theorem lw_p47 : lw_okq (⟨"ShortPostModel", "copyBook", "(II)V"⟩, 64) := ⟨⟨by decide +kernel, by decide +kernel⟩, List.mem_of_getElem? (i := 978) (by decide +kernel), List.mem_of_getElem? (i := 1234) (by decide +kernel), List.mem_of_getElem? (i := 1235) (by decide +kernel)⟩
def lw_privs_3 : List (MethodName × Nat) := [(⟨"ShortPost$Trainer", "appendPiece", "(LShortPost$Candidate;)V"⟩, 11), (⟨"ShortPost$Wire", "put", "(ILShortPost$Book;ILShortPost$Bytes;)Z"⟩, 8), (⟨"ShortPost", "sendLetter", "(LShortPost$Book;)I"⟩, 13), (⟨"ShortPost$Wire", "answerOffer", "(LShortPost$Book;)Z"⟩, 8), (⟨"ShortPost$Wire", "hearYes", "(LShortPost$Book;)Z"⟩, 8), (⟨"ShortPost$Wire", "hearNo", "(LShortPost$Book;)V"⟩, 8), (⟨"ShortPost$Wire", "takeLetter", "(LShortPost$Message;)V"⟩, 8), (⟨"ShortPost$Book", "releaseIfSettled", "()V"⟩, 9), (⟨"ShortPostModel", "four", "(I)V"⟩, 64), (⟨"ShortPostModel", "addPiece", "(I[III)V"⟩, 64), (⟨"ShortPostModel", "rowLong", "(I)I"⟩, 64), (⟨"ShortPostModel", "areSuch", "(I)Z"⟩, 64), (⟨"ShortPostModel", "pieceLong", "(II)I"⟩, 64), (⟨"ShortPostModel", "end", "(II)I"⟩, 64), (⟨"ShortPostModel", "begin", "(II)I"⟩, 64), (⟨"ShortPostModel", "copyBook", "(II)V"⟩, 64)]
theorem lw_r3 : ∀ q ∈ lw_privs_3, lw_okq q := List.forall_mem_cons.mpr ⟨lw_p32, List.forall_mem_cons.mpr ⟨lw_p33, List.forall_mem_cons.mpr ⟨lw_p34, List.forall_mem_cons.mpr ⟨lw_p35, List.forall_mem_cons.mpr ⟨lw_p36, List.forall_mem_cons.mpr ⟨lw_p37, List.forall_mem_cons.mpr ⟨lw_p38, List.forall_mem_cons.mpr ⟨lw_p39, List.forall_mem_cons.mpr ⟨lw_p40, List.forall_mem_cons.mpr ⟨lw_p41, List.forall_mem_cons.mpr ⟨lw_p42, List.forall_mem_cons.mpr ⟨lw_p43, List.forall_mem_cons.mpr ⟨lw_p44, List.forall_mem_cons.mpr ⟨lw_p45, List.forall_mem_cons.mpr ⟨lw_p46, List.forall_mem_cons.mpr ⟨lw_p47, fun _ h => absurd h List.not_mem_nil⟩⟩⟩⟩⟩⟩⟩⟩⟩⟩⟩⟩⟩⟩⟩⟩
theorem lw_p48 : lw_okq (⟨"ShortPostModel", "isBook", "(I)Z"⟩, 64) := ⟨⟨by decide +kernel, by decide +kernel⟩, List.mem_of_getElem? (i := 978) (by decide +kernel), List.mem_of_getElem? (i := 1242) (by decide +kernel), List.mem_of_getElem? (i := 1243) (by decide +kernel)⟩
theorem lw_p49 : lw_okq (⟨"ShortPostModel", "takeTape", "()Z"⟩, 64) := ⟨⟨by decide +kernel, by decide +kernel⟩, List.mem_of_getElem? (i := 978) (by decide +kernel), List.mem_of_getElem? (i := 1258) (by decide +kernel), List.mem_of_getElem? (i := 1259) (by decide +kernel)⟩
theorem lw_p50 : lw_okq (⟨"ShortPostModel", "take", "([III)V"⟩, 64) := ⟨⟨by decide +kernel, by decide +kernel⟩, List.mem_of_getElem? (i := 978) (by decide +kernel), List.mem_of_getElem? (i := 1262) (by decide +kernel), List.mem_of_getElem? (i := 1263) (by decide +kernel)⟩
theorem lw_p51 : lw_okq (⟨"ShortPostModel", "isBookOrNone", "(I)Z"⟩, 64) := ⟨⟨by decide +kernel, by decide +kernel⟩, List.mem_of_getElem? (i := 978) (by decide +kernel), List.mem_of_getElem? (i := 1266) (by decide +kernel), List.mem_of_getElem? (i := 1267) (by decide +kernel)⟩
theorem lw_p52 : lw_okq (⟨"ShortPostModel", "findLeast", "(I)V"⟩, 64) := ⟨⟨by decide +kernel, by decide +kernel⟩, List.mem_of_getElem? (i := 978) (by decide +kernel), List.mem_of_getElem? (i := 1270) (by decide +kernel), List.mem_of_getElem? (i := 1271) (by decide +kernel)⟩
theorem lw_p53 : lw_okq (⟨"ShortPostModel", "offer", "(IIIII)V"⟩, 64) := ⟨⟨by decide +kernel, by decide +kernel⟩, List.mem_of_getElem? (i := 978) (by decide +kernel), List.mem_of_getElem? (i := 1281) (by decide +kernel), List.mem_of_getElem? (i := 1282) (by decide +kernel)⟩
theorem lw_p54 : lw_okq (⟨"ShortPostModel", "toldLong", "(III)I"⟩, 64) := ⟨⟨by decide +kernel, by decide +kernel⟩, List.mem_of_getElem? (i := 978) (by decide +kernel), List.mem_of_getElem? (i := 1285) (by decide +kernel), List.mem_of_getElem? (i := 1286) (by decide +kernel)⟩
theorem lw_p55 : lw_okq (⟨"ShortPostModel", "pieceAt", "(II)I"⟩, 64) := ⟨⟨by decide +kernel, by decide +kernel⟩, List.mem_of_getElem? (i := 978) (by decide +kernel), List.mem_of_getElem? (i := 1289) (by decide +kernel), List.mem_of_getElem? (i := 1290) (by decide +kernel)⟩
theorem lw_p56 : lw_okq (⟨"ShortPostModel", "farLong", "(II)I"⟩, 64) := ⟨⟨by decide +kernel, by decide +kernel⟩, List.mem_of_getElem? (i := 978) (by decide +kernel), List.mem_of_getElem? (i := 1293) (by decide +kernel), List.mem_of_getElem? (i := 1294) (by decide +kernel)⟩
theorem lw_p57 : lw_okq (⟨"ShortPostModel", "isRanked", "(I)Z"⟩, 64) := ⟨⟨by decide +kernel, by decide +kernel⟩, List.mem_of_getElem? (i := 978) (by decide +kernel), List.mem_of_getElem? (i := 1297) (by decide +kernel), List.mem_of_getElem? (i := 1298) (by decide +kernel)⟩
theorem lw_p58 : lw_okq (⟨"ShortPostModel", "isWhole", "(III)Z"⟩, 64) := ⟨⟨by decide +kernel, by decide +kernel⟩, List.mem_of_getElem? (i := 978) (by decide +kernel), List.mem_of_getElem? (i := 1301) (by decide +kernel), List.mem_of_getElem? (i := 1302) (by decide +kernel)⟩
theorem lw_p59 : lw_okq (⟨"ShortPostModel", "write", "(II)V"⟩, 64) := ⟨⟨by decide +kernel, by decide +kernel⟩, List.mem_of_getElem? (i := 978) (by decide +kernel), List.mem_of_getElem? (i := 1305) (by decide +kernel), List.mem_of_getElem? (i := 1306) (by decide +kernel)⟩
theorem lw_p60 : lw_okq (⟨"ShortPostModel", "writeG", "(I)V"⟩, 64) := ⟨⟨by decide +kernel, by decide +kernel⟩, List.mem_of_getElem? (i := 978) (by decide +kernel), List.mem_of_getElem? (i := 1309) (by decide +kernel), List.mem_of_getElem? (i := 1310) (by decide +kernel)⟩
theorem lw_p61 : lw_okq (⟨"ShortPostModel", "writePart", "(II)V"⟩, 64) := ⟨⟨by decide +kernel, by decide +kernel⟩, List.mem_of_getElem? (i := 978) (by decide +kernel), List.mem_of_getElem? (i := 1313) (by decide +kernel), List.mem_of_getElem? (i := 1314) (by decide +kernel)⟩
theorem lw_p62 : lw_okq (⟨"ShortPostModel", "greedyPrice", "(I)I"⟩, 64) := ⟨⟨by decide +kernel, by decide +kernel⟩, List.mem_of_getElem? (i := 978) (by decide +kernel), List.mem_of_getElem? (i := 1321) (by decide +kernel), List.mem_of_getElem? (i := 1322) (by decide +kernel)⟩
theorem lw_p63 : lw_okq (⟨"ShortPostModel", "read", "(I)I"⟩, 64) := ⟨⟨by decide +kernel, by decide +kernel⟩, List.mem_of_getElem? (i := 978) (by decide +kernel), List.mem_of_getElem? (i := 1341) (by decide +kernel), List.mem_of_getElem? (i := 1342) (by decide +kernel)⟩
def lw_privs_4 : List (MethodName × Nat) := [(⟨"ShortPostModel", "isBook", "(I)Z"⟩, 64), (⟨"ShortPostModel", "takeTape", "()Z"⟩, 64), (⟨"ShortPostModel", "take", "([III)V"⟩, 64), (⟨"ShortPostModel", "isBookOrNone", "(I)Z"⟩, 64), (⟨"ShortPostModel", "findLeast", "(I)V"⟩, 64), (⟨"ShortPostModel", "offer", "(IIIII)V"⟩, 64), (⟨"ShortPostModel", "toldLong", "(III)I"⟩, 64), (⟨"ShortPostModel", "pieceAt", "(II)I"⟩, 64), (⟨"ShortPostModel", "farLong", "(II)I"⟩, 64), (⟨"ShortPostModel", "isRanked", "(I)Z"⟩, 64), (⟨"ShortPostModel", "isWhole", "(III)Z"⟩, 64), (⟨"ShortPostModel", "write", "(II)V"⟩, 64), (⟨"ShortPostModel", "writeG", "(I)V"⟩, 64), (⟨"ShortPostModel", "writePart", "(II)V"⟩, 64), (⟨"ShortPostModel", "greedyPrice", "(I)I"⟩, 64), (⟨"ShortPostModel", "read", "(I)I"⟩, 64)]
theorem lw_r4 : ∀ q ∈ lw_privs_4, lw_okq q := List.forall_mem_cons.mpr ⟨lw_p48, List.forall_mem_cons.mpr ⟨lw_p49, List.forall_mem_cons.mpr ⟨lw_p50, List.forall_mem_cons.mpr ⟨lw_p51, List.forall_mem_cons.mpr ⟨lw_p52, List.forall_mem_cons.mpr ⟨lw_p53, List.forall_mem_cons.mpr ⟨lw_p54, List.forall_mem_cons.mpr ⟨lw_p55, List.forall_mem_cons.mpr ⟨lw_p56, List.forall_mem_cons.mpr ⟨lw_p57, List.forall_mem_cons.mpr ⟨lw_p58, List.forall_mem_cons.mpr ⟨lw_p59, List.forall_mem_cons.mpr ⟨lw_p60, List.forall_mem_cons.mpr ⟨lw_p61, List.forall_mem_cons.mpr ⟨lw_p62, List.forall_mem_cons.mpr ⟨lw_p63, fun _ h => absurd h List.not_mem_nil⟩⟩⟩⟩⟩⟩⟩⟩⟩⟩⟩⟩⟩⟩⟩⟩
theorem lw_p64 : lw_okq (⟨"ShortPostModel", "wrong", "(II)V"⟩, 64) := ⟨⟨by decide +kernel, by decide +kernel⟩, List.mem_of_getElem? (i := 978) (by decide +kernel), List.mem_of_getElem? (i := 1345) (by decide +kernel), List.mem_of_getElem? (i := 1346) (by decide +kernel)⟩
theorem lw_p65 : lw_okq (⟨"ShortPostModel", "readG", "()I"⟩, 64) := ⟨⟨by decide +kernel, by decide +kernel⟩, List.mem_of_getElem? (i := 978) (by decide +kernel), List.mem_of_getElem? (i := 1349) (by decide +kernel), List.mem_of_getElem? (i := 1350) (by decide +kernel)⟩
theorem lw_p66 : lw_okq (⟨"ShortPostModel", "readPart", "(II)V"⟩, 64) := ⟨⟨by decide +kernel, by decide +kernel⟩, List.mem_of_getElem? (i := 978) (by decide +kernel), List.mem_of_getElem? (i := 1353) (by decide +kernel), List.mem_of_getElem? (i := 1354) (by decide +kernel)⟩
theorem lw_p67 : lw_okq (⟨"ShortPostModel", "readOwn", "(II)V"⟩, 64) := ⟨⟨by decide +kernel, by decide +kernel⟩, List.mem_of_getElem? (i := 978) (by decide +kernel), List.mem_of_getElem? (i := 1357) (by decide +kernel), List.mem_of_getElem? (i := 1358) (by decide +kernel)⟩
theorem lw_p68 : lw_okq (⟨"ShortPostModel", "getFrom", "([III)V"⟩, 64) := ⟨⟨by decide +kernel, by decide +kernel⟩, List.mem_of_getElem? (i := 978) (by decide +kernel), List.mem_of_getElem? (i := 1361) (by decide +kernel), List.mem_of_getElem? (i := 1362) (by decide +kernel)⟩
theorem lw_p69 : lw_okq (⟨"ShortPostModel", "priceOfAll", "(I)I"⟩, 64) := ⟨⟨by decide +kernel, by decide +kernel⟩, List.mem_of_getElem? (i := 978) (by decide +kernel), List.mem_of_getElem? (i := 1381) (by decide +kernel), List.mem_of_getElem? (i := 1382) (by decide +kernel)⟩
theorem lw_p70 : lw_okq (⟨"ShortPostModel", "findCandidates", "()V"⟩, 64) := ⟨⟨by decide +kernel, by decide +kernel⟩, List.mem_of_getElem? (i := 978) (by decide +kernel), List.mem_of_getElem? (i := 1389) (by decide +kernel), List.mem_of_getElem? (i := 1390) (by decide +kernel)⟩
theorem lw_p71 : lw_okq (⟨"ShortPostModel", "inMany", "(II)I"⟩, 64) := ⟨⟨by decide +kernel, by decide +kernel⟩, List.mem_of_getElem? (i := 978) (by decide +kernel), List.mem_of_getElem? (i := 1393) (by decide +kernel), List.mem_of_getElem? (i := 1394) (by decide +kernel)⟩
theorem lw_p72 : lw_okq (⟨"ShortPostModel", "isIn", "(III)Z"⟩, 64) := ⟨⟨by decide +kernel, by decide +kernel⟩, List.mem_of_getElem? (i := 978) (by decide +kernel), List.mem_of_getElem? (i := 1397) (by decide +kernel), List.mem_of_getElem? (i := 1398) (by decide +kernel)⟩
theorem lw_p73 : lw_okq (⟨"ShortPostModel", "isSame", "(III)Z"⟩, 64) := ⟨⟨by decide +kernel, by decide +kernel⟩, List.mem_of_getElem? (i := 978) (by decide +kernel), List.mem_of_getElem? (i := 1401) (by decide +kernel), List.mem_of_getElem? (i := 1402) (by decide +kernel)⟩
theorem lw_p74 : lw_okq (⟨"ShortPostModel", "propose", "(III)V"⟩, 64) := ⟨⟨by decide +kernel, by decide +kernel⟩, List.mem_of_getElem? (i := 978) (by decide +kernel), List.mem_of_getElem? (i := 1405) (by decide +kernel), List.mem_of_getElem? (i := 1406) (by decide +kernel)⟩
theorem lw_p75 : lw_okq (⟨"ShortPostModel", "isBetter", "(IIII)Z"⟩, 64) := ⟨⟨by decide +kernel, by decide +kernel⟩, List.mem_of_getElem? (i := 978) (by decide +kernel), List.mem_of_getElem? (i := 1409) (by decide +kernel), List.mem_of_getElem? (i := 1410) (by decide +kernel)⟩
theorem lw_p76 : lw_okq (⟨"ShortPostModel", "isFirst", "(III)Z"⟩, 64) := ⟨⟨by decide +kernel, by decide +kernel⟩, List.mem_of_getElem? (i := 978) (by decide +kernel), List.mem_of_getElem? (i := 1413) (by decide +kernel), List.mem_of_getElem? (i := 1414) (by decide +kernel)⟩
theorem lw_p77 : lw_okq (⟨"ShortPostModel", "nextPiece", "(I)I"⟩, 64) := ⟨⟨by decide +kernel, by decide +kernel⟩, List.mem_of_getElem? (i := 978) (by decide +kernel), List.mem_of_getElem? (i := 1417) (by decide +kernel), List.mem_of_getElem? (i := 1418) (by decide +kernel)⟩
theorem lw_p78 : lw_okq (⟨"ShortPostModel", "sendMessage", "(III)V"⟩, 64) := ⟨⟨by decide +kernel, by decide +kernel⟩, List.mem_of_getElem? (i := 978) (by decide +kernel), List.mem_of_getElem? (i := 1429) (by decide +kernel), List.mem_of_getElem? (i := 1430) (by decide +kernel)⟩
theorem lw_p79 : lw_okq (⟨"ShortPostModel", "takeOffer", "(I)I"⟩, 64) := ⟨⟨by decide +kernel, by decide +kernel⟩, List.mem_of_getElem? (i := 978) (by decide +kernel), List.mem_of_getElem? (i := 1445) (by decide +kernel), List.mem_of_getElem? (i := 1446) (by decide +kernel)⟩
def lw_privs_5 : List (MethodName × Nat) := [(⟨"ShortPostModel", "wrong", "(II)V"⟩, 64), (⟨"ShortPostModel", "readG", "()I"⟩, 64), (⟨"ShortPostModel", "readPart", "(II)V"⟩, 64), (⟨"ShortPostModel", "readOwn", "(II)V"⟩, 64), (⟨"ShortPostModel", "getFrom", "([III)V"⟩, 64), (⟨"ShortPostModel", "priceOfAll", "(I)I"⟩, 64), (⟨"ShortPostModel", "findCandidates", "()V"⟩, 64), (⟨"ShortPostModel", "inMany", "(II)I"⟩, 64), (⟨"ShortPostModel", "isIn", "(III)Z"⟩, 64), (⟨"ShortPostModel", "isSame", "(III)Z"⟩, 64), (⟨"ShortPostModel", "propose", "(III)V"⟩, 64), (⟨"ShortPostModel", "isBetter", "(IIII)Z"⟩, 64), (⟨"ShortPostModel", "isFirst", "(III)Z"⟩, 64), (⟨"ShortPostModel", "nextPiece", "(I)I"⟩, 64), (⟨"ShortPostModel", "sendMessage", "(III)V"⟩, 64), (⟨"ShortPostModel", "takeOffer", "(I)I"⟩, 64)]
theorem lw_r5 : ∀ q ∈ lw_privs_5, lw_okq q := List.forall_mem_cons.mpr ⟨lw_p64, List.forall_mem_cons.mpr ⟨lw_p65, List.forall_mem_cons.mpr ⟨lw_p66, List.forall_mem_cons.mpr ⟨lw_p67, List.forall_mem_cons.mpr ⟨lw_p68, List.forall_mem_cons.mpr ⟨lw_p69, List.forall_mem_cons.mpr ⟨lw_p70, List.forall_mem_cons.mpr ⟨lw_p71, List.forall_mem_cons.mpr ⟨lw_p72, List.forall_mem_cons.mpr ⟨lw_p73, List.forall_mem_cons.mpr ⟨lw_p74, List.forall_mem_cons.mpr ⟨lw_p75, List.forall_mem_cons.mpr ⟨lw_p76, List.forall_mem_cons.mpr ⟨lw_p77, List.forall_mem_cons.mpr ⟨lw_p78, List.forall_mem_cons.mpr ⟨lw_p79, fun _ h => absurd h List.not_mem_nil⟩⟩⟩⟩⟩⟩⟩⟩⟩⟩⟩⟩⟩⟩⟩⟩
theorem lw_p80 : lw_okq (⟨"ShortPostModel", "heldMany", "()I"⟩, 64) := ⟨⟨by decide +kernel, by decide +kernel⟩, List.mem_of_getElem? (i := 978) (by decide +kernel), List.mem_of_getElem? (i := 1449) (by decide +kernel), List.mem_of_getElem? (i := 1450) (by decide +kernel)⟩
theorem lw_p81 : lw_okq (⟨"ShortPostModel", "answer", "(III)I"⟩, 64) := ⟨⟨by decide +kernel, by decide +kernel⟩, List.mem_of_getElem? (i := 978) (by decide +kernel), List.mem_of_getElem? (i := 1453) (by decide +kernel), List.mem_of_getElem? (i := 1454) (by decide +kernel)⟩
theorem lw_p82 : lw_okq (⟨"ShortPostModel", "takeLetter", "(I)V"⟩, 64) := ⟨⟨by decide +kernel, by decide +kernel⟩, List.mem_of_getElem? (i := 978) (by decide +kernel), List.mem_of_getElem? (i := 1457) (by decide +kernel), List.mem_of_getElem? (i := 1458) (by decide +kernel)⟩
theorem lw_p83 : lw_okq (⟨"ShortPostModel", "settle", "(II)V"⟩, 64) := ⟨⟨by decide +kernel, by decide +kernel⟩, List.mem_of_getElem? (i := 978) (by decide +kernel), List.mem_of_getElem? (i := 1461) (by decide +kernel), List.mem_of_getElem? (i := 1462) (by decide +kernel)⟩
theorem lw_p84 : lw_okq (⟨"ShortPostModel", "release", "(I)V"⟩, 64) := ⟨⟨by decide +kernel, by decide +kernel⟩, List.mem_of_getElem? (i := 978) (by decide +kernel), List.mem_of_getElem? (i := 1465) (by decide +kernel), List.mem_of_getElem? (i := 1466) (by decide +kernel)⟩
def lw_privs_6 : List (MethodName × Nat) := [(⟨"ShortPostModel", "heldMany", "()I"⟩, 64), (⟨"ShortPostModel", "answer", "(III)I"⟩, 64), (⟨"ShortPostModel", "takeLetter", "(I)V"⟩, 64), (⟨"ShortPostModel", "settle", "(II)V"⟩, 64), (⟨"ShortPostModel", "release", "(I)V"⟩, 64)]
theorem lw_r6 : ∀ q ∈ lw_privs_6, lw_okq q := List.forall_mem_cons.mpr ⟨lw_p80, List.forall_mem_cons.mpr ⟨lw_p81, List.forall_mem_cons.mpr ⟨lw_p82, List.forall_mem_cons.mpr ⟨lw_p83, List.forall_mem_cons.mpr ⟨lw_p84, fun _ h => absurd h List.not_mem_nil⟩⟩⟩⟩⟩
def lw_privs : List (MethodName × Nat) := lw_privs_1 ++ (lw_privs_2 ++ (lw_privs_3 ++ (lw_privs_4 ++ (lw_privs_5 ++ (lw_privs_6)))))
def lw_tbl : List Cond := k2_sels lw_privs ++ tables_1
theorem lw_privs_ok : ∀ q ∈ lw_privs, lw_okq q := by
  show ∀ q ∈ lw_privs_1 ++ (lw_privs_2 ++ (lw_privs_3 ++ (lw_privs_4 ++ (lw_privs_5 ++ (lw_privs_6))))), lw_okq q
  exact List.forall_mem_append.mpr ⟨lw_r1, List.forall_mem_append.mpr ⟨lw_r2, List.forall_mem_append.mpr ⟨lw_r3, List.forall_mem_append.mpr ⟨lw_r4, List.forall_mem_append.mpr ⟨lw_r5, lw_r6⟩⟩⟩⟩⟩
def RX0 : String := "ShortPost$Book"
def TX0 : u_T := fun k => match k with
  | 0 => ("ShortPost$Book", "number", "I", true)
  | 1 => ("ShortPost$Book", "kind", "I", true)
  | 2 => ("ShortPost$Book", "pieces", "LShortPost$Pieces;", true)
  | 3 => ("ShortPost$Book", "state", "I", false)
  | 4 => ("ShortPost$Book", "lettersSent", "I", false)
  | 5 => ("ShortPost$Book", "held", "Z", false)
  | 6 => ("ShortPost$Book", "going", "Z", false)
  | 7 => ("ShortPost$Book", "lettersToAwait", "I", false)
  | _ => ("ShortPost$Book", "lettersSettled", "I", false)
def tyX0 : Nat → FieldType := fun k => match k with
  | 0 => .int
  | 1 => .int
  | 2 => .object "ShortPost$Pieces"
  | 3 => .int
  | 4 => .int
  | 5 => .boolean
  | 6 => .boolean
  | 7 => .int
  | _ => .int
abbrev wsX00 : List Cond := u_ws RX0 TX0 9
theorem nmX0 : ∀ a, a < 9 → ∀ b, b < 9 → a ≠ b → (TX0 a).2.1 ≠ (TX0 b).2.1 := by decide +kernel
theorem tyX0_ok : ∀ k, k < 9 → parseFieldDescriptor (TX0 k).2.2.1 = some (tyX0 k) := by decide +kernel
abbrev cX0_init : ByteArray := prog_2_method_1_code
def yX0_init : MethodName := ⟨RX0, "<init>", "(IILShortPost$Pieces;)V"⟩
abbrev cX0_isRanked : ByteArray := prog_2_method_2_code
def yX0_isRanked : MethodName := ⟨RX0, "isRanked", "()Z"⟩
abbrev cX0_hold : ByteArray := prog_2_method_3_code
def yX0_hold : MethodName := ⟨RX0, "hold", "()V"⟩
abbrev cX0_awaitLetters : ByteArray := prog_2_method_4_code
def yX0_awaitLetters : MethodName := ⟨RX0, "awaitLetters", "(I)V"⟩
abbrev cX0_settleLetter : ByteArray := prog_2_method_5_code
def yX0_settleLetter : MethodName := ⟨RX0, "settleLetter", "()V"⟩
abbrev cX0_releaseIfSettled : ByteArray := prog_2_method_6_code
def yX0_releaseIfSettled : MethodName := ⟨RX0, "releaseIfSettled", "()V"⟩
def RX1 : String := "ShortPost$Bytes"
def TX1 : u_T := fun k => match k with
  | 0 => ("ShortPost$Bytes", "values", "[I", true)
  | _ => ("ShortPost$Bytes", "size", "I", false)
def tyX1 : Nat → FieldType := fun k => match k with
  | 0 => .array .int
  | _ => .int
abbrev wsX10 : List Cond := u_ws RX1 TX1 2
theorem nmX1 : ∀ a, a < 2 → ∀ b, b < 2 → a ≠ b → (TX1 a).2.1 ≠ (TX1 b).2.1 := by decide +kernel
theorem tyX1_ok : ∀ k, k < 2 → parseFieldDescriptor (TX1 k).2.2.1 = some (tyX1 k) := by decide +kernel
abbrev cX1_init : ByteArray := prog_3_method_1_code
def yX1_init : MethodName := ⟨RX1, "<init>", "(I)V"⟩
abbrev cX1_clear : ByteArray := prog_3_method_2_code
def yX1_clear : MethodName := ⟨RX1, "clear", "()V"⟩
abbrev cX1_shorten : ByteArray := prog_3_method_3_code
def yX1_shorten : MethodName := ⟨RX1, "shorten", "(I)V"⟩
abbrev cX1_add : ByteArray := prog_3_method_4_code
def yX1_add : MethodName := ⟨RX1, "add", "(I)V"⟩
abbrev cX1_at : ByteArray := prog_3_method_5_code
def yX1_at : MethodName := ⟨RX1, "at", "(I)I"⟩
abbrev cX1_raise : ByteArray := prog_3_method_6_code
def yX1_raise : MethodName := ⟨RX1, "raise", "(II)V"⟩
abbrev cX1_append : ByteArray := prog_3_method_7_code
def yX1_append : MethodName := ⟨RX1, "append", "(LShortPost$Bytes;II)V"⟩
abbrev cX1_become : ByteArray := prog_3_method_8_code
def yX1_become : MethodName := ⟨RX1, "become", "(LShortPost$Bytes;)V"⟩
abbrev cX1_alike : ByteArray := prog_3_method_9_code
def yX1_alike : MethodName := ⟨RX1, "alike", "(ILShortPost$Bytes;II)I"⟩
def RX2 : String := "ShortPost$Candidate"
def TX2 : u_T := fun k => match k with
  | 0 => ("ShortPost$Candidate", "source", "LShortPost$Bytes;", false)
  | 1 => ("ShortPost$Candidate", "start", "I", false)
  | 2 => ("ShortPost$Candidate", "length", "I", false)
  | _ => ("ShortPost$Candidate", "spread", "I", false)
def tyX2 : Nat → FieldType := fun k => match k with
  | 0 => .object "ShortPost$Bytes"
  | 1 => .int
  | 2 => .int
  | _ => .int
abbrev wsX20 : List Cond := u_ws RX2 TX2 4
theorem nmX2 : ∀ a, a < 4 → ∀ b, b < 4 → a ≠ b → (TX2 a).2.1 ≠ (TX2 b).2.1 := by decide +kernel
theorem tyX2_ok : ∀ k, k < 4 → parseFieldDescriptor (TX2 k).2.2.1 = some (tyX2 k) := by decide +kernel
abbrev cX2_init : ByteArray := prog_4_method_1_code
def yX2_init : MethodName := ⟨RX2, "<init>", "(LShortPost$Bytes;)V"⟩
abbrev cX2_set : ByteArray := prog_4_method_2_code
def yX2_set : MethodName := ⟨RX2, "set", "(LShortPost$Bytes;III)V"⟩
abbrev cX2_become : ByteArray := prog_4_method_3_code
def yX2_become : MethodName := ⟨RX2, "become", "(LShortPost$Candidate;)V"⟩
abbrev cX2_order : ByteArray := prog_4_method_4_code
def yX2_order : MethodName := ⟨RX2, "order", "(LShortPost$Candidate;)I"⟩
abbrev cX2_orderBySpread : ByteArray := prog_4_method_5_code
def yX2_orderBySpread : MethodName := ⟨RX2, "orderBySpread", "(LShortPost$Candidate;)I"⟩
def RX3 : String := "ShortPost$Message"
def TX3 : u_T := fun k => match k with
  | 0 => ("ShortPost$Message", "sort", "I", true)
  | 1 => ("ShortPost$Message", "book", "LShortPost$Book;", true)
  | 2 => ("ShortPost$Message", "letters", "I", true)
  | 3 => ("ShortPost$Message", "written", "LShortPost$Bytes;", true)
  | 4 => ("ShortPost$Message", "underWay", "I", false)
  | _ => ("ShortPost$Message", "fate", "I", false)
def tyX3 : Nat → FieldType := fun k => match k with
  | 0 => .int
  | 1 => .object "ShortPost$Book"
  | 2 => .int
  | 3 => .object "ShortPost$Bytes"
  | 4 => .int
  | _ => .int
abbrev wsX30 : List Cond := u_ws RX3 TX3 6
theorem nmX3 : ∀ a, a < 6 → ∀ b, b < 6 → a ≠ b → (TX3 a).2.1 ≠ (TX3 b).2.1 := by decide +kernel
theorem tyX3_ok : ∀ k, k < 6 → parseFieldDescriptor (TX3 k).2.2.1 = some (tyX3 k) := by decide +kernel
abbrev cX3_init : ByteArray := prog_5_method_1_code
def yX3_init : MethodName := ⟨RX3, "<init>", "(ILShortPost$Book;ILShortPost$Bytes;)V"⟩
def RX4 : String := "ShortPost$Packer"
def TX4 : u_T := fun k => match k with
  | 0 => ("ShortPost$Packer", "prices", "[I", true)
  | 1 => ("ShortPost$Packer", "partsLeft", "[I", true)
  | 2 => ("ShortPost$Packer", "kinds", "[I", true)
  | 3 => ("ShortPost$Packer", "places", "[I", true)
  | 4 => ("ShortPost$Packer", "lengths", "[I", true)
  | 5 => ("ShortPost$Packer", "rowRuns", "[I", true)
  | 6 => ("ShortPost$Packer", "letterRuns", "[I", true)
  | 7 => ("ShortPost$Packer", "gammas", "[I", true)
  | 8 => ("ShortPost$Packer", "letter", "LShortPost$Bytes;", false)
  | 9 => ("ShortPost$Packer", "pieces", "LShortPost$Pieces;", false)
  | 10 => ("ShortPost$Packer", "size", "I", false)
  | _ => ("ShortPost$Packer", "toldPlaces", "I", false)
def tyX4 : Nat → FieldType := fun k => match k with
  | 0 => .array .int
  | 1 => .array .int
  | 2 => .array .int
  | 3 => .array .int
  | 4 => .array .int
  | 5 => .array .int
  | 6 => .array .int
  | 7 => .array .int
  | 8 => .object "ShortPost$Bytes"
  | 9 => .object "ShortPost$Pieces"
  | 10 => .int
  | _ => .int
abbrev wsX40 : List Cond := u_ws RX4 TX4 12
theorem nmX4 : ∀ a, a < 12 → ∀ b, b < 12 → a ≠ b → (TX4 a).2.1 ≠ (TX4 b).2.1 := by decide +kernel
theorem tyX4_ok : ∀ k, k < 12 → parseFieldDescriptor (TX4 k).2.2.1 = some (tyX4 k) := by decide +kernel
abbrev cX4_init : ByteArray := prog_6_method_1_code
def yX4_init : MethodName := ⟨RX4, "<init>", "()V"⟩
abbrev cX4_plan : ByteArray := prog_6_method_2_code
def yX4_plan : MethodName := ⟨RX4, "plan", "(LShortPost$Bytes;LShortPost$Pieces;Z)V"⟩
abbrev cX4_greedyTotal : ByteArray := prog_6_method_3_code
def yX4_greedyTotal : MethodName := ⟨RX4, "greedyTotal", "(LShortPost$Bytes;LShortPost$Pieces;Z)I"⟩
abbrev cX4_begin : ByteArray := prog_6_method_4_code
def yX4_begin : MethodName := ⟨RX4, "begin", "(LShortPost$Bytes;LShortPost$Pieces;)V"⟩
abbrev cX4_followRow : ByteArray := prog_6_method_5_code
def yX4_followRow : MethodName := ⟨RX4, "followRow", "(I)V"⟩
abbrev cX4_followLetter : ByteArray := prog_6_method_6_code
def yX4_followLetter : MethodName := ⟨RX4, "followLetter", "(I)V"⟩
abbrev cX4_tryOwn : ByteArray := prog_6_method_7_code
def yX4_tryOwn : MethodName := ⟨RX4, "tryOwn", "(I)V"⟩
abbrev cX4_tryCopies : ByteArray := prog_6_method_8_code
def yX4_tryCopies : MethodName := ⟨RX4, "tryCopies", "(II[III)V"⟩
abbrev cX4_tryWhole : ByteArray := prog_6_method_9_code
def yX4_tryWhole : MethodName := ⟨RX4, "tryWhole", "(I)V"⟩
abbrev cX4_tryPart : ByteArray := prog_6_method_10_code
def yX4_tryPart : MethodName := ⟨RX4, "tryPart", "(IIIII)V"⟩
abbrev cX4_longestWhole : ByteArray := prog_6_method_11_code
def yX4_longestWhole : MethodName := ⟨RX4, "longestWhole", "()I"⟩
abbrev cX4_greedyFrom : ByteArray := prog_6_method_12_code
def yX4_greedyFrom : MethodName := ⟨RX4, "greedyFrom", "(II)I"⟩
abbrev cX4_least : ByteArray := prog_6_method_13_code
def yX4_least : MethodName := ⟨RX4, "least", "(I)I"⟩
abbrev cX4_startOfPart : ByteArray := prog_6_method_14_code
def yX4_startOfPart : MethodName := ⟨RX4, "startOfPart", "(I)I"⟩
abbrev cX4_kindAt : ByteArray := prog_6_method_15_code
def yX4_kindAt : MethodName := ⟨RX4, "kindAt", "(I)I"⟩
abbrev cX4_placeAt : ByteArray := prog_6_method_16_code
def yX4_placeAt : MethodName := ⟨RX4, "placeAt", "(I)I"⟩
abbrev cX4_lengthAt : ByteArray := prog_6_method_17_code
def yX4_lengthAt : MethodName := ⟨RX4, "lengthAt", "(I)I"⟩
def RX5 : String := "ShortPost$Pieces"
def TX5 : u_T := fun k => match k with
  | 0 => ("ShortPost$Pieces", "row", "LShortPost$Bytes;", true)
  | 1 => ("ShortPost$Pieces", "ends", "[I", true)
  | _ => ("ShortPost$Pieces", "number", "I", false)
def tyX5 : Nat → FieldType := fun k => match k with
  | 0 => .object "ShortPost$Bytes"
  | 1 => .array .int
  | _ => .int
abbrev wsX50 : List Cond := u_ws RX5 TX5 3
theorem nmX5 : ∀ a, a < 3 → ∀ b, b < 3 → a ≠ b → (TX5 a).2.1 ≠ (TX5 b).2.1 := by decide +kernel
theorem tyX5_ok : ∀ k, k < 3 → parseFieldDescriptor (TX5 k).2.2.1 = some (tyX5 k) := by decide +kernel
abbrev cX5_init : ByteArray := prog_7_method_1_code
def yX5_init : MethodName := ⟨RX5, "<init>", "(II)V"⟩
abbrev cX5_clear : ByteArray := prog_7_method_2_code
def yX5_clear : MethodName := ⟨RX5, "clear", "()V"⟩
abbrev cX5_append : ByteArray := prog_7_method_3_code
def yX5_append : MethodName := ⟨RX5, "append", "(LShortPost$Bytes;II)V"⟩
abbrev cX5_dropLast : ByteArray := prog_7_method_4_code
def yX5_dropLast : MethodName := ⟨RX5, "dropLast", "()V"⟩
abbrev cX5_start : ByteArray := prog_7_method_5_code
def yX5_start : MethodName := ⟨RX5, "start", "(I)I"⟩
abbrev cX5_end : ByteArray := prog_7_method_6_code
def yX5_end : MethodName := ⟨RX5, "end", "(I)I"⟩
abbrev cX5_length : ByteArray := prog_7_method_7_code
def yX5_length : MethodName := ⟨RX5, "length", "(I)I"⟩
abbrev cX5_endAround : ByteArray := prog_7_method_8_code
def yX5_endAround : MethodName := ⟨RX5, "endAround", "(I)I"⟩
abbrev cX5_fits : ByteArray := prog_7_method_9_code
def yX5_fits : MethodName := ⟨RX5, "fits", "(I)Z"⟩
abbrev cX5_copy : ByteArray := prog_7_method_10_code
def yX5_copy : MethodName := ⟨RX5, "copy", "()LShortPost$Pieces;"⟩
def RX6 : String := "ShortPost$Reader"
def TX6 : u_T := fun k => match k with
  | 0 => ("ShortPost$Reader", "shelf", "LShortPost$Shelf;", true)
  | 1 => ("ShortPost$Reader", "letter", "LShortPost$Bytes;", true)
  | 2 => ("ShortPost$Reader", "source", "LShortPost$Bytes;", false)
  | 3 => ("ShortPost$Reader", "at", "I", false)
  | 4 => ("ShortPost$Reader", "end", "I", false)
  | 5 => ("ShortPost$Reader", "size", "I", false)
  | 6 => ("ShortPost$Reader", "fault", "I", false)
  | _ => ("ShortPost$Reader", "place", "I", false)
def tyX6 : Nat → FieldType := fun k => match k with
  | 0 => .object "ShortPost$Shelf"
  | 1 => .object "ShortPost$Bytes"
  | 2 => .object "ShortPost$Bytes"
  | 3 => .int
  | 4 => .int
  | 5 => .int
  | 6 => .int
  | _ => .int
abbrev wsX60 : List Cond := u_ws RX6 TX6 8
theorem nmX6 : ∀ a, a < 8 → ∀ b, b < 8 → a ≠ b → (TX6 a).2.1 ≠ (TX6 b).2.1 := by decide +kernel
theorem tyX6_ok : ∀ k, k < 8 → parseFieldDescriptor (TX6 k).2.2.1 = some (tyX6 k) := by decide +kernel
abbrev cX6_init : ByteArray := prog_8_method_1_code
def yX6_init : MethodName := ⟨RX6, "<init>", "(LShortPost$Shelf;)V"⟩
abbrev cX6_read : ByteArray := prog_8_method_2_code
def yX6_read : MethodName := ⟨RX6, "read", "(LShortPost$Bytes;)I"⟩
abbrev cX6_note : ByteArray := prog_8_method_3_code
def yX6_note : MethodName := ⟨RX6, "note", "(II)V"⟩
abbrev cX6_readBook : ByteArray := prog_8_method_4_code
def yX6_readBook : MethodName := ⟨RX6, "readBook", "()LShortPost$Book;"⟩
abbrev cX6_readSize : ByteArray := prog_8_method_5_code
def yX6_readSize : MethodName := ⟨RX6, "readSize", "()V"⟩
abbrev cX6_readPart : ByteArray := prog_8_method_6_code
def yX6_readPart : MethodName := ⟨RX6, "readPart", "(LShortPost$Book;)V"⟩
abbrev cX6_readOwn : ByteArray := prog_8_method_7_code
def yX6_readOwn : MethodName := ⟨RX6, "readOwn", "(I)V"⟩
abbrev cX6_readTold : ByteArray := prog_8_method_8_code
def yX6_readTold : MethodName := ⟨RX6, "readTold", "(ILShortPost$Pieces;)V"⟩
abbrev cX6_readFar : ByteArray := prog_8_method_9_code
def yX6_readFar : MethodName := ⟨RX6, "readFar", "(I)V"⟩
abbrev cX6_takeCopy : ByteArray := prog_8_method_10_code
def yX6_takeCopy : MethodName := ⟨RX6, "takeCopy", "(ILShortPost$Bytes;III)V"⟩
abbrev cX6_readWhole : ByteArray := prog_8_method_11_code
def yX6_readWhole : MethodName := ⟨RX6, "readWhole", "(ILShortPost$Book;)V"⟩
abbrev cX6_readFill : ByteArray := prog_8_method_12_code
def yX6_readFill : MethodName := ⟨RX6, "readFill", "()V"⟩
abbrev cX6_readBits : ByteArray := prog_8_method_13_code
def yX6_readBits : MethodName := ⟨RX6, "readBits", "(I)I"⟩
abbrev cX6_readGamma : ByteArray := prog_8_method_14_code
def yX6_readGamma : MethodName := ⟨RX6, "readGamma", "()I"⟩
def RX7 : String := "ShortPost$Shelf"
def TX7 : u_T := fun k => match k with
  | 0 => ("ShortPost$Shelf", "books", "[LShortPost$Book;", true)
  | 1 => ("ShortPost$Shelf", "number", "I", false)
  | _ => ("ShortPost$Shelf", "nothing", "LShortPost$Book;", true)
def tyX7 : Nat → FieldType := fun k => match k with
  | 0 => .array (.object "ShortPost$Book")
  | 1 => .int
  | _ => .object "ShortPost$Book"
abbrev wsX70 : List Cond := u_ws RX7 TX7 3
theorem nmX7 : ∀ a, a < 3 → ∀ b, b < 3 → a ≠ b → (TX7 a).2.1 ≠ (TX7 b).2.1 := by decide +kernel
theorem tyX7_ok : ∀ k, k < 3 → parseFieldDescriptor (TX7 k).2.2.1 = some (tyX7 k) := by decide +kernel
abbrev cX7_init : ByteArray := prog_9_method_1_code
def yX7_init : MethodName := ⟨RX7, "<init>", "()V"⟩
abbrev cX7_isFull : ByteArray := prog_9_method_2_code
def yX7_isFull : MethodName := ⟨RX7, "isFull", "()Z"⟩
abbrev cX7_append : ByteArray := prog_9_method_3_code
def yX7_append : MethodName := ⟨RX7, "append", "(ILShortPost$Pieces;)I"⟩
abbrev cX7_find : ByteArray := prog_9_method_4_code
def yX7_find : MethodName := ⟨RX7, "find", "(I)LShortPost$Book;"⟩
abbrev cX7_findOrNothing : ByteArray := prog_9_method_5_code
def yX7_findOrNothing : MethodName := ⟨RX7, "findOrNothing", "(I)LShortPost$Book;"⟩
abbrev cX7_heldBooks : ByteArray := prog_9_method_6_code
def yX7_heldBooks : MethodName := ⟨RX7, "heldBooks", "()I"⟩
def RX8 : String := "ShortPost$Trainer"
def TX8 : u_T := fun k => match k with
  | 0 => ("ShortPost$Trainer", "packer", "LShortPost$Packer;", true)
  | 1 => ("ShortPost$Trainer", "samples", "[LShortPost$Bytes;", true)
  | 2 => ("ShortPost$Trainer", "sampleNumber", "I", false)
  | 3 => ("ShortPost$Trainer", "candidates", "[LShortPost$Candidate;", true)
  | 4 => ("ShortPost$Trainer", "found", "I", false)
  | 5 => ("ShortPost$Trainer", "probe", "LShortPost$Candidate;", true)
  | 6 => ("ShortPost$Trainer", "longestIn", "[I", true)
  | 7 => ("ShortPost$Trainer", "taken", "LShortPost$Pieces;", true)
  | 8 => ("ShortPost$Trainer", "gains", "[I", true)
  | 9 => ("ShortPost$Trainer", "keptCandidates", "I", false)
  | _ => ("ShortPost$Trainer", "keptPieces", "I", false)
def tyX8 : Nat → FieldType := fun k => match k with
  | 0 => .object "ShortPost$Packer"
  | 1 => .array (.object "ShortPost$Bytes")
  | 2 => .int
  | 3 => .array (.object "ShortPost$Candidate")
  | 4 => .int
  | 5 => .object "ShortPost$Candidate"
  | 6 => .array .int
  | 7 => .object "ShortPost$Pieces"
  | 8 => .array .int
  | 9 => .int
  | _ => .int
abbrev wsX80 : List Cond := u_ws RX8 TX8 11
theorem nmX8 : ∀ a, a < 11 → ∀ b, b < 11 → a ≠ b → (TX8 a).2.1 ≠ (TX8 b).2.1 := by decide +kernel
theorem tyX8_ok : ∀ k, k < 11 → parseFieldDescriptor (TX8 k).2.2.1 = some (tyX8 k) := by decide +kernel
abbrev cX8_init : ByteArray := prog_10_method_1_code
def yX8_init : MethodName := ⟨RX8, "<init>", "(LShortPost$Packer;)V"⟩
abbrev cX8_keepSample : ByteArray := prog_10_method_2_code
def yX8_keepSample : MethodName := ⟨RX8, "keepSample", "(LShortPost$Bytes;)Z"⟩
abbrev cX8_least : ByteArray := prog_10_method_3_code
def yX8_least : MethodName := ⟨RX8, "least", "(LShortPost$Pieces;Z)I"⟩
abbrev cX8_keepGains : ByteArray := prog_10_method_4_code
def yX8_keepGains : MethodName := ⟨RX8, "keepGains", "()V"⟩
abbrev cX8_keptGain : ByteArray := prog_10_method_5_code
def yX8_keptGain : MethodName := ⟨RX8, "keptGain", "(I)I"⟩
abbrev cX8_begin : ByteArray := prog_10_method_6_code
def yX8_begin : MethodName := ⟨RX8, "begin", "()V"⟩
abbrev cX8_findAt : ByteArray := prog_10_method_7_code
def yX8_findAt : MethodName := ⟨RX8, "findAt", "(LShortPost$Bytes;I)V"⟩
abbrev cX8_longestAlike : ByteArray := prog_10_method_8_code
def yX8_longestAlike : MethodName := ⟨RX8, "longestAlike", "(LShortPost$Bytes;ILShortPost$Bytes;)I"⟩
abbrev cX8_insertProbe : ByteArray := prog_10_method_9_code
def yX8_insertProbe : MethodName := ⟨RX8, "insertProbe", "()V"⟩
abbrev cX8_takeNext : ByteArray := prog_10_method_10_code
def yX8_takeNext : MethodName := ⟨RX8, "takeNext", "(Z)Z"⟩
abbrev cX8_appendPiece : ByteArray := prog_10_method_11_code
def yX8_appendPiece : MethodName := ⟨RX8, "appendPiece", "(LShortPost$Candidate;)V"⟩
abbrev cX8_gainOf : ByteArray := prog_10_method_12_code
def yX8_gainOf : MethodName := ⟨RX8, "gainOf", "(LShortPost$Candidate;ZI)I"⟩
def RX9 : String := "ShortPost$Wire"
def TX9 : u_T := fun k => match k with
  | 0 => ("ShortPost$Wire", "shelf", "LShortPost$Shelf;", true)
  | 1 => ("ShortPost$Wire", "messages", "[LShortPost$Message;", true)
  | 2 => ("ShortPost$Wire", "noLetter", "LShortPost$Bytes;", true)
  | 3 => ("ShortPost$Wire", "newest", "LShortPost$Message;", false)
  | 4 => ("ShortPost$Wire", "sent", "I", false)
  | 5 => ("ShortPost$Wire", "came", "I", false)
  | 6 => ("ShortPost$Wire", "repeated", "I", false)
  | _ => ("ShortPost$Wire", "missing", "I", false)
def tyX9 : Nat → FieldType := fun k => match k with
  | 0 => .object "ShortPost$Shelf"
  | 1 => .array (.object "ShortPost$Message")
  | 2 => .object "ShortPost$Bytes"
  | 3 => .object "ShortPost$Message"
  | 4 => .int
  | 5 => .int
  | 6 => .int
  | _ => .int
abbrev wsX90 : List Cond := u_ws RX9 TX9 8
theorem nmX9 : ∀ a, a < 8 → ∀ b, b < 8 → a ≠ b → (TX9 a).2.1 ≠ (TX9 b).2.1 := by decide +kernel
theorem tyX9_ok : ∀ k, k < 8 → parseFieldDescriptor (TX9 k).2.2.1 = some (tyX9 k) := by decide +kernel
abbrev cX9_init : ByteArray := prog_11_method_1_code
def yX9_init : MethodName := ⟨RX9, "<init>", "(LShortPost$Shelf;)V"⟩
abbrev cX9_isFull : ByteArray := prog_11_method_2_code
def yX9_isFull : MethodName := ⟨RX9, "isFull", "()Z"⟩
abbrev cX9_find : ByteArray := prog_11_method_3_code
def yX9_find : MethodName := ⟨RX9, "find", "(I)LShortPost$Message;"⟩
abbrev cX9_messagesUnderWay : ByteArray := prog_11_method_4_code
def yX9_messagesUnderWay : MethodName := ⟨RX9, "messagesUnderWay", "()I"⟩
abbrev cX9_post : ByteArray := prog_11_method_5_code
def yX9_post : MethodName := ⟨RX9, "post", "(ILShortPost$Book;I)Z"⟩
abbrev cX9_postLetter : ByteArray := prog_11_method_6_code
def yX9_postLetter : MethodName := ⟨RX9, "postLetter", "(LShortPost$Book;LShortPost$Bytes;)V"⟩
abbrev cX9_put : ByteArray := prog_11_method_7_code
def yX9_put : MethodName := ⟨RX9, "put", "(ILShortPost$Book;ILShortPost$Bytes;)Z"⟩
abbrev cX9_arrive : ByteArray := prog_11_method_8_code
def yX9_arrive : MethodName := ⟨RX9, "arrive", "(LShortPost$Message;)Z"⟩
abbrev cX9_answerOffer : ByteArray := prog_11_method_9_code
def yX9_answerOffer : MethodName := ⟨RX9, "answerOffer", "(LShortPost$Book;)Z"⟩
abbrev cX9_hearYes : ByteArray := prog_11_method_10_code
def yX9_hearYes : MethodName := ⟨RX9, "hearYes", "(LShortPost$Book;)Z"⟩
abbrev cX9_hearNo : ByteArray := prog_11_method_11_code
def yX9_hearNo : MethodName := ⟨RX9, "hearNo", "(LShortPost$Book;)V"⟩
abbrev cX9_takeLetter : ByteArray := prog_11_method_12_code
def yX9_takeLetter : MethodName := ⟨RX9, "takeLetter", "(LShortPost$Message;)V"⟩
abbrev cX9_noteLoss : ByteArray := prog_11_method_13_code
def yX9_noteLoss : MethodName := ⟨RX9, "noteLoss", "(LShortPost$Message;)V"⟩
def RX10 : String := "ShortPost$Writer"
def TX10 : u_T := fun k => match k with
  | 0 => ("ShortPost$Writer", "target", "LShortPost$Bytes;", false)
  | _ => ("ShortPost$Writer", "written", "I", false)
def tyX10 : Nat → FieldType := fun k => match k with
  | 0 => .object "ShortPost$Bytes"
  | _ => .int
abbrev wsX100 : List Cond := u_ws RX10 TX10 2
theorem nmX10 : ∀ a, a < 2 → ∀ b, b < 2 → a ≠ b → (TX10 a).2.1 ≠ (TX10 b).2.1 := by decide +kernel
theorem tyX10_ok : ∀ k, k < 2 → parseFieldDescriptor (TX10 k).2.2.1 = some (tyX10 k) := by decide +kernel
abbrev cX10_init : ByteArray := prog_12_method_1_code
def yX10_init : MethodName := ⟨RX10, "<init>", "()V"⟩
abbrev cX10_write : ByteArray := prog_12_method_2_code
def yX10_write : MethodName := ⟨RX10, "write", "(LShortPost$Bytes;LShortPost$Book;LShortPost$Packer;LShortPost$Bytes;)V"⟩
abbrev cX10_putPart : ByteArray := prog_12_method_3_code
def yX10_putPart : MethodName := ⟨RX10, "putPart", "(LShortPost$Bytes;LShortPost$Pieces;LShortPost$Packer;I)V"⟩
abbrev cX10_putBytes : ByteArray := prog_12_method_4_code
def yX10_putBytes : MethodName := ⟨RX10, "putBytes", "(LShortPost$Bytes;II)V"⟩
abbrev cX10_putGamma : ByteArray := prog_12_method_5_code
def yX10_putGamma : MethodName := ⟨RX10, "putGamma", "(I)V"⟩
abbrev cX10_put : ByteArray := prog_12_method_6_code
def yX10_put : MethodName := ⟨RX10, "put", "(II)V"⟩
def RX11 : String := "ShortPost"
def TX11 : u_T := fun k => match k with
  | 0 => ("ShortPost", "tape", "LShortPost$Bytes;", true)
  | 1 => ("ShortPost", "output", "LShortPost$Bytes;", true)
  | 2 => ("ShortPost", "draft", "LShortPost$Pieces;", true)
  | 3 => ("ShortPost", "shelf", "LShortPost$Shelf;", true)
  | 4 => ("ShortPost", "packed", "LShortPost$Packer;", true)
  | 5 => ("ShortPost", "spare", "LShortPost$Packer;", true)
  | 6 => ("ShortPost", "writer", "LShortPost$Writer;", true)
  | 7 => ("ShortPost", "reader", "LShortPost$Reader;", true)
  | 8 => ("ShortPost", "trainer", "LShortPost$Trainer;", true)
  | 9 => ("ShortPost", "wire", "LShortPost$Wire;", true)
  | 10 => ("ShortPost", "envelope", "LShortPost$Bytes;", true)
  | 11 => ("ShortPost", "packedBits", "I", false)
  | _ => ("ShortPost", "latestFault", "I", false)
def tyX11 : Nat → FieldType := fun k => match k with
  | 0 => .object "ShortPost$Bytes"
  | 1 => .object "ShortPost$Bytes"
  | 2 => .object "ShortPost$Pieces"
  | 3 => .object "ShortPost$Shelf"
  | 4 => .object "ShortPost$Packer"
  | 5 => .object "ShortPost$Packer"
  | 6 => .object "ShortPost$Writer"
  | 7 => .object "ShortPost$Reader"
  | 8 => .object "ShortPost$Trainer"
  | 9 => .object "ShortPost$Wire"
  | 10 => .object "ShortPost$Bytes"
  | 11 => .int
  | _ => .int
abbrev wsX110 : List Cond := u_ws RX11 TX11 13
theorem nmX11 : ∀ a, a < 13 → ∀ b, b < 13 → a ≠ b → (TX11 a).2.1 ≠ (TX11 b).2.1 := by decide +kernel
theorem tyX11_ok : ∀ k, k < 13 → parseFieldDescriptor (TX11 k).2.2.1 = some (tyX11 k) := by decide +kernel
abbrev cX11_init : ByteArray := prog_1_method_1_code
def yX11_init : MethodName := ⟨RX11, "<init>", "()V"⟩
abbrev cX11_feed : ByteArray := prog_1_method_2_code
def yX11_feed : MethodName := ⟨RX11, "feed", "(IIIII)I"⟩
abbrev cX11_feedNumber : ByteArray := prog_1_method_3_code
def yX11_feedNumber : MethodName := ⟨RX11, "feedNumber", "(I)V"⟩
abbrev cX11_trim : ByteArray := prog_1_method_4_code
def yX11_trim : MethodName := ⟨RX11, "trim", "(I)I"⟩
abbrev cX11_again : ByteArray := prog_1_method_5_code
def yX11_again : MethodName := ⟨RX11, "again", "()I"⟩
abbrev cX11_out : ByteArray := prog_1_method_6_code
def yX11_out : MethodName := ⟨RX11, "out", "(I)I"⟩
abbrev cX11_piece : ByteArray := prog_1_method_7_code
def yX11_piece : MethodName := ⟨RX11, "piece", "()I"⟩
abbrev cX11_draftPiece : ByteArray := prog_1_method_8_code
def yX11_draftPiece : MethodName := ⟨RX11, "draftPiece", "()I"⟩
abbrev cX11_book : ByteArray := prog_1_method_9_code
def yX11_book : MethodName := ⟨RX11, "book", "(I)I"⟩
abbrev cX11_about : ByteArray := prog_1_method_10_code
def yX11_about : MethodName := ⟨RX11, "about", "(II)I"⟩
abbrev cX11_tell : ByteArray := prog_1_method_11_code
def yX11_tell : MethodName := ⟨RX11, "tell", "(II)I"⟩
abbrev cX11_isOf : ByteArray := prog_1_method_12_code
def yX11_isOf : MethodName := ⟨RX11, "isOf", "(II)I"⟩
abbrev cX11_pack : ByteArray := prog_1_method_13_code
def yX11_pack : MethodName := ⟨RX11, "pack", "(I)I"⟩
abbrev cX11_greedy : ByteArray := prog_1_method_14_code
def yX11_greedy : MethodName := ⟨RX11, "greedy", "(I)I"⟩
abbrev cX11_bits : ByteArray := prog_1_method_15_code
def yX11_bits : MethodName := ⟨RX11, "bits", "()I"⟩
abbrev cX11_part : ByteArray := prog_1_method_16_code
def yX11_part : MethodName := ⟨RX11, "part", "(II)I"⟩
abbrev cX11_rest : ByteArray := prog_1_method_17_code
def yX11_rest : MethodName := ⟨RX11, "rest", "(I)I"⟩
abbrev cX11_unpack : ByteArray := prog_1_method_18_code
def yX11_unpack : MethodName := ⟨RX11, "unpack", "()I"⟩
abbrev cX11_fault : ByteArray := prog_1_method_19_code
def yX11_fault : MethodName := ⟨RX11, "fault", "()I"⟩
abbrev cX11_sample : ByteArray := prog_1_method_20_code
def yX11_sample : MethodName := ⟨RX11, "sample", "()I"⟩
abbrev cX11_addSample : ByteArray := prog_1_method_21_code
def yX11_addSample : MethodName := ⟨RX11, "addSample", "()I"⟩
abbrev cX11_forget : ByteArray := prog_1_method_22_code
def yX11_forget : MethodName := ⟨RX11, "forget", "()I"⟩
abbrev cX11_train : ByteArray := prog_1_method_23_code
def yX11_train : MethodName := ⟨RX11, "train", "(II)I"⟩
abbrev cX11_gained : ByteArray := prog_1_method_24_code
def yX11_gained : MethodName := ⟨RX11, "gained", "(I)I"⟩
abbrev cX11_price : ByteArray := prog_1_method_25_code
def yX11_price : MethodName := ⟨RX11, "price", "(I)I"⟩
abbrev cX11_offer : ByteArray := prog_1_method_26_code
def yX11_offer : MethodName := ⟨RX11, "offer", "(I)I"⟩
abbrev cX11_send : ByteArray := prog_1_method_27_code
def yX11_send : MethodName := ⟨RX11, "send", "(I)I"⟩
abbrev cX11_sendLetter : ByteArray := prog_1_method_28_code
def yX11_sendLetter : MethodName := ⟨RX11, "sendLetter", "(LShortPost$Book;)I"⟩
abbrev cX11_over : ByteArray := prog_1_method_29_code
def yX11_over : MethodName := ⟨RX11, "over", "(I)I"⟩
abbrev cX11_deliver : ByteArray := prog_1_method_30_code
def yX11_deliver : MethodName := ⟨RX11, "deliver", "(I)I"⟩
abbrev cX11_lose : ByteArray := prog_1_method_31_code
def yX11_lose : MethodName := ⟨RX11, "lose", "(I)I"⟩
abbrev cX11_twice : ByteArray := prog_1_method_32_code
def yX11_twice : MethodName := ⟨RX11, "twice", "(I)I"⟩
abbrev cX11_message : ByteArray := prog_1_method_33_code
def yX11_message : MethodName := ⟨RX11, "message", "(II)I"⟩
abbrev cX11_latest : ByteArray := prog_1_method_34_code
def yX11_latest : MethodName := ⟨RX11, "latest", "()I"⟩
abbrev cX11_count : ByteArray := prog_1_method_35_code
def yX11_count : MethodName := ⟨RX11, "count", "(I)I"⟩
abbrev cX11_width : ByteArray := prog_1_method_36_code
def yX11_width : MethodName := ⟨RX11, "width", "(I)I"⟩
abbrev cX11_gamma : ByteArray := prog_1_method_37_code
def yX11_gamma : MethodName := ⟨RX11, "gamma", "(I)I"⟩
def RX12 : String := "ShortPostModel"
def TX12 : u_T := fun k => match k with
  | 0 => ("ShortPostModel", "thrown", "I", false)
  | 1 => ("ShortPostModel", "tape", "[I", true)
  | 2 => ("ShortPostModel", "taped", "I", false)
  | 3 => ("ShortPostModel", "out", "[I", true)
  | 4 => ("ShortPostModel", "outMany", "I", false)
  | 5 => ("ShortPostModel", "books", "I", false)
  | 6 => ("ShortPostModel", "kinds", "[I", true)
  | 7 => ("ShortPostModel", "pieces", "[I", true)
  | 8 => ("ShortPostModel", "ends", "[I", true)
  | 9 => ("ShortPostModel", "rows", "[I", true)
  | 10 => ("ShortPostModel", "states", "[I", true)
  | 11 => ("ShortPostModel", "held", "[Z", true)
  | 12 => ("ShortPostModel", "going", "[Z", true)
  | 13 => ("ShortPostModel", "toldGone", "[I", true)
  | 14 => ("ShortPostModel", "sent", "[I", true)
  | 15 => ("ShortPostModel", "settled", "[I", true)
  | 16 => ("ShortPostModel", "samples", "I", false)
  | 17 => ("ShortPostModel", "sampleLong", "[I", true)
  | 18 => ("ShortPostModel", "sampleRows", "[I", true)
  | 19 => ("ShortPostModel", "messages", "I", false)
  | 20 => ("ShortPostModel", "sorts", "[I", true)
  | 21 => ("ShortPostModel", "messageBook", "[I", true)
  | 22 => ("ShortPostModel", "underWay", "[I", true)
  | 23 => ("ShortPostModel", "told", "[I", true)
  | 24 => ("ShortPostModel", "came", "[I", true)
  | 25 => ("ShortPostModel", "letterLong", "[I", true)
  | 26 => ("ShortPostModel", "letters", "[I", true)
  | 27 => ("ShortPostModel", "latest", "I", false)
  | 28 => ("ShortPostModel", "cameMany", "I", false)
  | 29 => ("ShortPostModel", "twiceMany", "I", false)
  | 30 => ("ShortPostModel", "missingMany", "I", false)
  | 31 => ("ShortPostModel", "letter", "[I", true)
  | 32 => ("ShortPostModel", "letterMany", "I", false)
  | 33 => ("ShortPostModel", "price", "[I", true)
  | 34 => ("ShortPostModel", "parts", "[I", true)
  | 35 => ("ShortPostModel", "partKind", "[I", true)
  | 36 => ("ShortPostModel", "partAt", "[I", true)
  | 37 => ("ShortPostModel", "partLong", "[I", true)
  | 38 => ("ShortPostModel", "hasPacked", "Z", false)
  | 39 => ("ShortPostModel", "packedLong", "I", false)
  | 40 => ("ShortPostModel", "packedBits", "I", false)
  | 41 => ("ShortPostModel", "packedParts", "I", false)
  | 42 => ("ShortPostModel", "packedKind", "[I", true)
  | 43 => ("ShortPostModel", "packedAt", "[I", true)
  | 44 => ("ShortPostModel", "packedSize", "[I", true)
  | 45 => ("ShortPostModel", "packedRest", "[I", true)
  | 46 => ("ShortPostModel", "bits", "[I", true)
  | 47 => ("ShortPostModel", "bitMany", "I", false)
  | 48 => ("ShortPostModel", "at", "I", false)
  | 49 => ("ShortPostModel", "wrong", "I", false)
  | 50 => ("ShortPostModel", "wrongAt", "I", false)
  | 51 => ("ShortPostModel", "fault", "I", false)
  | 52 => ("ShortPostModel", "got", "[I", true)
  | 53 => ("ShortPostModel", "gotMany", "I", false)
  | 54 => ("ShortPostModel", "candidates", "I", false)
  | 55 => ("ShortPostModel", "candidateAt", "[I", true)
  | 56 => ("ShortPostModel", "candidateLong", "[I", true)
  | 57 => ("ShortPostModel", "candidateIn", "[I", true)
  | 58 => ("ShortPostModel", "gainedFrom", "I", false)
  | 59 => ("ShortPostModel", "gainedPieces", "I", false)
  | 60 => ("ShortPostModel", "hasGained", "Z", false)
  | 61 => ("ShortPostModel", "gains", "[I", true)
  | 62 => ("ShortPostModel", "newGains", "[I", true)
  | _ => ("ShortPostModel", "bestGain", "I", false)
def tyX12 : Nat → FieldType := fun k => match k with
  | 0 => .int
  | 1 => .array .int
  | 2 => .int
  | 3 => .array .int
  | 4 => .int
  | 5 => .int
  | 6 => .array .int
  | 7 => .array .int
  | 8 => .array .int
  | 9 => .array .int
  | 10 => .array .int
  | 11 => .array .boolean
  | 12 => .array .boolean
  | 13 => .array .int
  | 14 => .array .int
  | 15 => .array .int
  | 16 => .int
  | 17 => .array .int
  | 18 => .array .int
  | 19 => .int
  | 20 => .array .int
  | 21 => .array .int
  | 22 => .array .int
  | 23 => .array .int
  | 24 => .array .int
  | 25 => .array .int
  | 26 => .array .int
  | 27 => .int
  | 28 => .int
  | 29 => .int
  | 30 => .int
  | 31 => .array .int
  | 32 => .int
  | 33 => .array .int
  | 34 => .array .int
  | 35 => .array .int
  | 36 => .array .int
  | 37 => .array .int
  | 38 => .boolean
  | 39 => .int
  | 40 => .int
  | 41 => .int
  | 42 => .array .int
  | 43 => .array .int
  | 44 => .array .int
  | 45 => .array .int
  | 46 => .array .int
  | 47 => .int
  | 48 => .int
  | 49 => .int
  | 50 => .int
  | 51 => .int
  | 52 => .array .int
  | 53 => .int
  | 54 => .int
  | 55 => .array .int
  | 56 => .array .int
  | 57 => .array .int
  | 58 => .int
  | 59 => .int
  | 60 => .boolean
  | 61 => .array .int
  | 62 => .array .int
  | _ => .int
abbrev wsX120 : List Cond := u_ws RX12 TX12 64
theorem nmX12 : ∀ a, a < 64 → ∀ b, b < 64 → a ≠ b → (TX12 a).2.1 ≠ (TX12 b).2.1 := by decide +kernel
theorem tyX12_ok : ∀ k, k < 64 → parseFieldDescriptor (TX12 k).2.2.1 = some (tyX12 k) := by decide +kernel
abbrev cX12_init : ByteArray := prog_14_method_2_code
def yX12_init : MethodName := ⟨RX12, "<init>", "()V"⟩
abbrev cX12_in : ByteArray := prog_14_method_3_code
def yX12_in : MethodName := ⟨RX12, "in", "(III)Z"⟩
abbrev cX12_feed : ByteArray := prog_14_method_4_code
def yX12_feed : MethodName := ⟨RX12, "feed", "(IIIII)I"⟩
abbrev cX12_four : ByteArray := prog_14_method_5_code
def yX12_four : MethodName := ⟨RX12, "four", "(I)V"⟩
abbrev cX12_trim : ByteArray := prog_14_method_6_code
def yX12_trim : MethodName := ⟨RX12, "trim", "(I)I"⟩
abbrev cX12_again : ByteArray := prog_14_method_7_code
def yX12_again : MethodName := ⟨RX12, "again", "()I"⟩
abbrev cX12_out : ByteArray := prog_14_method_8_code
def yX12_out : MethodName := ⟨RX12, "out", "(I)I"⟩
abbrev cX12_rowLong : ByteArray := prog_14_method_9_code
def yX12_rowLong : MethodName := ⟨RX12, "rowLong", "(I)I"⟩
abbrev cX12_begin : ByteArray := prog_14_method_10_code
def yX12_begin : MethodName := ⟨RX12, "begin", "(II)I"⟩
abbrev cX12_end : ByteArray := prog_14_method_11_code
def yX12_end : MethodName := ⟨RX12, "end", "(II)I"⟩
abbrev cX12_pieceLong : ByteArray := prog_14_method_12_code
def yX12_pieceLong : MethodName := ⟨RX12, "pieceLong", "(II)I"⟩
abbrev cX12_pieceAt : ByteArray := prog_14_method_13_code
def yX12_pieceAt : MethodName := ⟨RX12, "pieceAt", "(II)I"⟩
abbrev cX12_addPiece : ByteArray := prog_14_method_14_code
def yX12_addPiece : MethodName := ⟨RX12, "addPiece", "(I[III)V"⟩
abbrev cX12_copyBook : ByteArray := prog_14_method_15_code
def yX12_copyBook : MethodName := ⟨RX12, "copyBook", "(II)V"⟩
abbrev cX12_isBook : ByteArray := prog_14_method_16_code
def yX12_isBook : MethodName := ⟨RX12, "isBook", "(I)Z"⟩
abbrev cX12_isBookOrNone : ByteArray := prog_14_method_17_code
def yX12_isBookOrNone : MethodName := ⟨RX12, "isBookOrNone", "(I)Z"⟩
abbrev cX12_piece : ByteArray := prog_14_method_18_code
def yX12_piece : MethodName := ⟨RX12, "piece", "()I"⟩
abbrev cX12_areSuch : ByteArray := prog_14_method_19_code
def yX12_areSuch : MethodName := ⟨RX12, "areSuch", "(I)Z"⟩
abbrev cX12_book : ByteArray := prog_14_method_20_code
def yX12_book : MethodName := ⟨RX12, "book", "(I)I"⟩
abbrev cX12_about : ByteArray := prog_14_method_21_code
def yX12_about : MethodName := ⟨RX12, "about", "(II)I"⟩
abbrev cX12_tell : ByteArray := prog_14_method_22_code
def yX12_tell : MethodName := ⟨RX12, "tell", "(II)I"⟩
abbrev cX12_isOf : ByteArray := prog_14_method_23_code
def yX12_isOf : MethodName := ⟨RX12, "isOf", "(II)I"⟩
abbrev cX12_bitsOf : ByteArray := prog_14_method_24_code
def yX12_bitsOf : MethodName := ⟨RX12, "bitsOf", "(I)I"⟩
abbrev cX12_g : ByteArray := prog_14_method_25_code
def yX12_g : MethodName := ⟨RX12, "g", "(I)I"⟩
abbrev cX12_isRanked : ByteArray := prog_14_method_26_code
def yX12_isRanked : MethodName := ⟨RX12, "isRanked", "(I)Z"⟩
abbrev cX12_take : ByteArray := prog_14_method_27_code
def yX12_take : MethodName := ⟨RX12, "take", "([III)V"⟩
abbrev cX12_toldLong : ByteArray := prog_14_method_28_code
def yX12_toldLong : MethodName := ⟨RX12, "toldLong", "(III)I"⟩
abbrev cX12_farLong : ByteArray := prog_14_method_29_code
def yX12_farLong : MethodName := ⟨RX12, "farLong", "(II)I"⟩
abbrev cX12_isWhole : ByteArray := prog_14_method_30_code
def yX12_isWhole : MethodName := ⟨RX12, "isWhole", "(III)Z"⟩
abbrev cX12_offer : ByteArray := prog_14_method_31_code
def yX12_offer : MethodName := ⟨RX12, "offer", "(IIIII)V"⟩
abbrev cX12_findLeast : ByteArray := prog_14_method_32_code
def yX12_findLeast : MethodName := ⟨RX12, "findLeast", "(I)V"⟩
abbrev cX12_greedyPrice : ByteArray := prog_14_method_33_code
def yX12_greedyPrice : MethodName := ⟨RX12, "greedyPrice", "(I)I"⟩
abbrev cX12_write : ByteArray := prog_14_method_34_code
def yX12_write : MethodName := ⟨RX12, "write", "(II)V"⟩
abbrev cX12_writeG : ByteArray := prog_14_method_35_code
def yX12_writeG : MethodName := ⟨RX12, "writeG", "(I)V"⟩
abbrev cX12_writePart : ByteArray := prog_14_method_36_code
def yX12_writePart : MethodName := ⟨RX12, "writePart", "(II)V"⟩
abbrev cX12_takeTape : ByteArray := prog_14_method_37_code
def yX12_takeTape : MethodName := ⟨RX12, "takeTape", "()Z"⟩
abbrev cX12_pack : ByteArray := prog_14_method_38_code
def yX12_pack : MethodName := ⟨RX12, "pack", "(I)I"⟩
abbrev cX12_greedy : ByteArray := prog_14_method_39_code
def yX12_greedy : MethodName := ⟨RX12, "greedy", "(I)I"⟩
abbrev cX12_bits : ByteArray := prog_14_method_40_code
def yX12_bits : MethodName := ⟨RX12, "bits", "()I"⟩
abbrev cX12_part : ByteArray := prog_14_method_41_code
def yX12_part : MethodName := ⟨RX12, "part", "(II)I"⟩
abbrev cX12_rest : ByteArray := prog_14_method_42_code
def yX12_rest : MethodName := ⟨RX12, "rest", "(I)I"⟩
abbrev cX12_wrong : ByteArray := prog_14_method_43_code
def yX12_wrong : MethodName := ⟨RX12, "wrong", "(II)V"⟩
abbrev cX12_read : ByteArray := prog_14_method_44_code
def yX12_read : MethodName := ⟨RX12, "read", "(I)I"⟩
abbrev cX12_readG : ByteArray := prog_14_method_45_code
def yX12_readG : MethodName := ⟨RX12, "readG", "()I"⟩
abbrev cX12_getFrom : ByteArray := prog_14_method_46_code
def yX12_getFrom : MethodName := ⟨RX12, "getFrom", "([III)V"⟩
abbrev cX12_readOwn : ByteArray := prog_14_method_47_code
def yX12_readOwn : MethodName := ⟨RX12, "readOwn", "(II)V"⟩
abbrev cX12_readPart : ByteArray := prog_14_method_48_code
def yX12_readPart : MethodName := ⟨RX12, "readPart", "(II)V"⟩
abbrev cX12_unpack : ByteArray := prog_14_method_49_code
def yX12_unpack : MethodName := ⟨RX12, "unpack", "()I"⟩
abbrev cX12_fault : ByteArray := prog_14_method_50_code
def yX12_fault : MethodName := ⟨RX12, "fault", "()I"⟩
abbrev cX12_sample : ByteArray := prog_14_method_51_code
def yX12_sample : MethodName := ⟨RX12, "sample", "()I"⟩
abbrev cX12_forget : ByteArray := prog_14_method_52_code
def yX12_forget : MethodName := ⟨RX12, "forget", "()I"⟩
abbrev cX12_priceOfAll : ByteArray := prog_14_method_53_code
def yX12_priceOfAll : MethodName := ⟨RX12, "priceOfAll", "(I)I"⟩
abbrev cX12_price : ByteArray := prog_14_method_54_code
def yX12_price : MethodName := ⟨RX12, "price", "(I)I"⟩
abbrev cX12_isSame : ByteArray := prog_14_method_55_code
def yX12_isSame : MethodName := ⟨RX12, "isSame", "(III)Z"⟩
abbrev cX12_isIn : ByteArray := prog_14_method_56_code
def yX12_isIn : MethodName := ⟨RX12, "isIn", "(III)Z"⟩
abbrev cX12_inMany : ByteArray := prog_14_method_57_code
def yX12_inMany : MethodName := ⟨RX12, "inMany", "(II)I"⟩
abbrev cX12_isFirst : ByteArray := prog_14_method_58_code
def yX12_isFirst : MethodName := ⟨RX12, "isFirst", "(III)Z"⟩
abbrev cX12_isBetter : ByteArray := prog_14_method_59_code
def yX12_isBetter : MethodName := ⟨RX12, "isBetter", "(IIII)Z"⟩
abbrev cX12_propose : ByteArray := prog_14_method_60_code
def yX12_propose : MethodName := ⟨RX12, "propose", "(III)V"⟩
abbrev cX12_findCandidates : ByteArray := prog_14_method_61_code
def yX12_findCandidates : MethodName := ⟨RX12, "findCandidates", "()V"⟩
abbrev cX12_nextPiece : ByteArray := prog_14_method_62_code
def yX12_nextPiece : MethodName := ⟨RX12, "nextPiece", "(I)I"⟩
abbrev cX12_train : ByteArray := prog_14_method_63_code
def yX12_train : MethodName := ⟨RX12, "train", "(II)I"⟩
abbrev cX12_gained : ByteArray := prog_14_method_64_code
def yX12_gained : MethodName := ⟨RX12, "gained", "(I)I"⟩
abbrev cX12_sendMessage : ByteArray := prog_14_method_65_code
def yX12_sendMessage : MethodName := ⟨RX12, "sendMessage", "(III)V"⟩
abbrev cX12_offer_ : ByteArray := prog_14_method_66_code
def yX12_offer_ : MethodName := ⟨RX12, "offer", "(I)I"⟩
abbrev cX12_send : ByteArray := prog_14_method_67_code
def yX12_send : MethodName := ⟨RX12, "send", "(I)I"⟩
abbrev cX12_over : ByteArray := prog_14_method_68_code
def yX12_over : MethodName := ⟨RX12, "over", "(I)I"⟩
abbrev cX12_answer : ByteArray := prog_14_method_69_code
def yX12_answer : MethodName := ⟨RX12, "answer", "(III)I"⟩
abbrev cX12_heldMany : ByteArray := prog_14_method_70_code
def yX12_heldMany : MethodName := ⟨RX12, "heldMany", "()I"⟩
abbrev cX12_release : ByteArray := prog_14_method_71_code
def yX12_release : MethodName := ⟨RX12, "release", "(I)V"⟩
abbrev cX12_takeOffer : ByteArray := prog_14_method_72_code
def yX12_takeOffer : MethodName := ⟨RX12, "takeOffer", "(I)I"⟩
abbrev cX12_settle : ByteArray := prog_14_method_73_code
def yX12_settle : MethodName := ⟨RX12, "settle", "(II)V"⟩
abbrev cX12_takeLetter : ByteArray := prog_14_method_74_code
def yX12_takeLetter : MethodName := ⟨RX12, "takeLetter", "(I)V"⟩
abbrev cX12_deliver : ByteArray := prog_14_method_75_code
def yX12_deliver : MethodName := ⟨RX12, "deliver", "(I)I"⟩
abbrev cX12_lose : ByteArray := prog_14_method_76_code
def yX12_lose : MethodName := ⟨RX12, "lose", "(I)I"⟩
abbrev cX12_twice : ByteArray := prog_14_method_77_code
def yX12_twice : MethodName := ⟨RX12, "twice", "(I)I"⟩
abbrev cX12_message : ByteArray := prog_14_method_78_code
def yX12_message : MethodName := ⟨RX12, "message", "(II)I"⟩
abbrev cX12_latest : ByteArray := prog_14_method_79_code
def yX12_latest : MethodName := ⟨RX12, "latest", "()I"⟩
abbrev cX12_count : ByteArray := prog_14_method_80_code
def yX12_count : MethodName := ⟨RX12, "count", "(I)I"⟩
def RL : String := "ShortPostLaw"
abbrev cL_law : ByteArray := code
def yL_law : MethodName := ⟨RL, "law", "([I)Z"⟩
abbrev vwCl : List vw_C := [(RX0, TX0, 9), (RX1, TX1, 2), (RX2, TX2, 4), (RX3, TX3, 6), (RX4, TX4, 12), (RX5, TX5, 3), (RX6, TX6, 8), (RX7, TX7, 3), (RX8, TX8, 11), (RX9, TX9, 8), (RX10, TX10, 2), (RX11, TX11, 13), (RX12, TX12, 64)]
