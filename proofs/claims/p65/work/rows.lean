section
-- ===== PART A: goes FIRST, ahead of the names: the tables' words, and 'selects' of the private methods out of them =====
/-- a private method of a class that the tables say can be made, by its rows of tables_1 -/
def lw_okq (q : MethodName × Nat) : Prop := (q.1.cls ≠ "java/lang/invoke/MethodHandle" ∧ q.1.cls ≠ "java/lang/invoke/VarHandle") ∧ Cond.instantiable q.1.cls q.2 ∈ tables_1 ∧ Cond.privateMethod q.1 ∈ tables_1 ∧ Cond.instanceMethod q.1 ∈ tables_1
theorem lw_p0 : lw_okq (⟨"BeggarKings$Setting", "begin", "(IIII)V"⟩, 14) := ⟨⟨by decide +kernel, by decide +kernel⟩, List.mem_of_getElem? (i := 70) (by decide +kernel), List.mem_of_getElem? (i := 250) (by decide +kernel), List.mem_of_getElem? (i := 251) (by decide +kernel)⟩
theorem lw_p1 : lw_okq (⟨"BeggarKings$Setting", "addPerson", "(IIIII)V"⟩, 14) := ⟨⟨by decide +kernel, by decide +kernel⟩, List.mem_of_getElem? (i := 70) (by decide +kernel), List.mem_of_getElem? (i := 254) (by decide +kernel), List.mem_of_getElem? (i := 255) (by decide +kernel)⟩
theorem lw_p2 : lw_okq (⟨"BeggarKings$Setting", "addBridge", "(III)V"⟩, 14) := ⟨⟨by decide +kernel, by decide +kernel⟩, List.mem_of_getElem? (i := 70) (by decide +kernel), List.mem_of_getElem? (i := 261) (by decide +kernel), List.mem_of_getElem? (i := 262) (by decide +kernel)⟩
theorem lw_p3 : lw_okq (⟨"BeggarKings$Position", "begin", "()V"⟩, 15) := ⟨⟨by decide +kernel, by decide +kernel⟩, List.mem_of_getElem? (i := 131) (by decide +kernel), List.mem_of_getElem? (i := 265) (by decide +kernel), List.mem_of_getElem? (i := 266) (by decide +kernel)⟩
theorem lw_p4 : lw_okq (⟨"BeggarKings$Setting", "hasKing", "(I)Z"⟩, 14) := ⟨⟨by decide +kernel, by decide +kernel⟩, List.mem_of_getElem? (i := 70) (by decide +kernel), List.mem_of_getElem? (i := 279) (by decide +kernel), List.mem_of_getElem? (i := 280) (by decide +kernel)⟩
theorem lw_p5 : lw_okq (⟨"BeggarKings$Setting", "hasPerson", "(I)Z"⟩, 14) := ⟨⟨by decide +kernel, by decide +kernel⟩, List.mem_of_getElem? (i := 70) (by decide +kernel), List.mem_of_getElem? (i := 283) (by decide +kernel), List.mem_of_getElem? (i := 284) (by decide +kernel)⟩
theorem lw_p6 : lw_okq (⟨"BeggarKings$Position", "countedInAll", "()I"⟩, 15) := ⟨⟨by decide +kernel, by decide +kernel⟩, List.mem_of_getElem? (i := 131) (by decide +kernel), List.mem_of_getElem? (i := 327) (by decide +kernel), List.mem_of_getElem? (i := 328) (by decide +kernel)⟩
theorem lw_p7 : lw_okq (⟨"BeggarKings$Position", "coinsInAll", "()I"⟩, 15) := ⟨⟨by decide +kernel, by decide +kernel⟩, List.mem_of_getElem? (i := 131) (by decide +kernel), List.mem_of_getElem? (i := 336) (by decide +kernel), List.mem_of_getElem? (i := 337) (by decide +kernel)⟩
theorem lw_p8 : lw_okq (⟨"BeggarKings$Setting", "coinsInAll", "()I"⟩, 14) := ⟨⟨by decide +kernel, by decide +kernel⟩, List.mem_of_getElem? (i := 70) (by decide +kernel), List.mem_of_getElem? (i := 340) (by decide +kernel), List.mem_of_getElem? (i := 341) (by decide +kernel)⟩
theorem lw_p9 : lw_okq (⟨"BeggarKingsLaw", "loads", "(LBeggarKings;[I)Z"⟩, 5) := ⟨⟨by decide +kernel, by decide +kernel⟩, List.mem_of_getElem? (i := 347) (by decide +kernel), List.mem_of_getElem? (i := 373) (by decide +kernel), List.mem_of_getElem? (i := 374) (by decide +kernel)⟩
theorem lw_p10 : lw_okq (⟨"BeggarKingsLaw", "writes", "(Ljava/lang/String;)V"⟩, 5) := ⟨⟨by decide +kernel, by decide +kernel⟩, List.mem_of_getElem? (i := 347) (by decide +kernel), List.mem_of_getElem? (i := 378) (by decide +kernel), List.mem_of_getElem? (i := 379) (by decide +kernel)⟩
theorem lw_p11 : lw_okq (⟨"BeggarKingsLaw", "sign", "(I)V"⟩, 5) := ⟨⟨by decide +kernel, by decide +kernel⟩, List.mem_of_getElem? (i := 347) (by decide +kernel), List.mem_of_getElem? (i := 430) (by decide +kernel), List.mem_of_getElem? (i := 431) (by decide +kernel)⟩
theorem lw_p12 : lw_okq (⟨"BeggarKingsLaw", "number", "(I)V"⟩, 5) := ⟨⟨by decide +kernel, by decide +kernel⟩, List.mem_of_getElem? (i := 347) (by decide +kernel), List.mem_of_getElem? (i := 434) (by decide +kernel), List.mem_of_getElem? (i := 435) (by decide +kernel)⟩
theorem lw_p13 : lw_okq (⟨"BeggarKingsLaw", "feeds", "(LBeggarKings;)I"⟩, 5) := ⟨⟨by decide +kernel, by decide +kernel⟩, List.mem_of_getElem? (i := 347) (by decide +kernel), List.mem_of_getElem? (i := 446) (by decide +kernel), List.mem_of_getElem? (i := 447) (by decide +kernel)⟩
theorem lw_p14 : lw_okq (⟨"BeggarKings$Text", "appendWord", "(I)V"⟩, 9) := ⟨⟨by decide +kernel, by decide +kernel⟩, List.mem_of_getElem? (i := 32) (by decide +kernel), List.mem_of_getElem? (i := 454) (by decide +kernel), List.mem_of_getElem? (i := 455) (by decide +kernel)⟩
theorem lw_p15 : lw_okq (⟨"BeggarKings", "requireLength", "(I)V"⟩, 11) := ⟨⟨by decide +kernel, by decide +kernel⟩, List.mem_of_getElem? (i := 24) (by decide +kernel), List.mem_of_getElem? (i := 463) (by decide +kernel), List.mem_of_getElem? (i := 464) (by decide +kernel)⟩
def lw_privs_1 : List (MethodName × Nat) := [(⟨"BeggarKings$Setting", "begin", "(IIII)V"⟩, 14), (⟨"BeggarKings$Setting", "addPerson", "(IIIII)V"⟩, 14), (⟨"BeggarKings$Setting", "addBridge", "(III)V"⟩, 14), (⟨"BeggarKings$Position", "begin", "()V"⟩, 15), (⟨"BeggarKings$Setting", "hasKing", "(I)Z"⟩, 14), (⟨"BeggarKings$Setting", "hasPerson", "(I)Z"⟩, 14), (⟨"BeggarKings$Position", "countedInAll", "()I"⟩, 15), (⟨"BeggarKings$Position", "coinsInAll", "()I"⟩, 15), (⟨"BeggarKings$Setting", "coinsInAll", "()I"⟩, 14), (⟨"BeggarKingsLaw", "loads", "(LBeggarKings;[I)Z"⟩, 5), (⟨"BeggarKingsLaw", "writes", "(Ljava/lang/String;)V"⟩, 5), (⟨"BeggarKingsLaw", "sign", "(I)V"⟩, 5), (⟨"BeggarKingsLaw", "number", "(I)V"⟩, 5), (⟨"BeggarKingsLaw", "feeds", "(LBeggarKings;)I"⟩, 5), (⟨"BeggarKings$Text", "appendWord", "(I)V"⟩, 9), (⟨"BeggarKings", "requireLength", "(I)V"⟩, 11)]
theorem lw_r1 : ∀ q ∈ lw_privs_1, lw_okq q := List.forall_mem_cons.mpr ⟨lw_p0, List.forall_mem_cons.mpr ⟨lw_p1, List.forall_mem_cons.mpr ⟨lw_p2, List.forall_mem_cons.mpr ⟨lw_p3, List.forall_mem_cons.mpr ⟨lw_p4, List.forall_mem_cons.mpr ⟨lw_p5, List.forall_mem_cons.mpr ⟨lw_p6, List.forall_mem_cons.mpr ⟨lw_p7, List.forall_mem_cons.mpr ⟨lw_p8, List.forall_mem_cons.mpr ⟨lw_p9, List.forall_mem_cons.mpr ⟨lw_p10, List.forall_mem_cons.mpr ⟨lw_p11, List.forall_mem_cons.mpr ⟨lw_p12, List.forall_mem_cons.mpr ⟨lw_p13, List.forall_mem_cons.mpr ⟨lw_p14, List.forall_mem_cons.mpr ⟨lw_p15, fun _ h => absurd h List.not_mem_nil⟩⟩⟩⟩⟩⟩⟩⟩⟩⟩⟩⟩⟩⟩⟩⟩
theorem lw_p16 : lw_okq (⟨"java/lang/Throwable", "fillInStackTrace", "(I)Ljava/lang/Throwable;"⟩, 6) := ⟨⟨by decide +kernel, by decide +kernel⟩, List.mem_of_getElem? (i := 505) (by decide +kernel), List.mem_of_getElem? (i := 503) (by decide +kernel), List.mem_of_getElem? (i := 504) (by decide +kernel)⟩
theorem lw_p17 : lw_okq (⟨"BeggarKings$Text", "open", "(I)V"⟩, 9) := ⟨⟨by decide +kernel, by decide +kernel⟩, List.mem_of_getElem? (i := 32) (by decide +kernel), List.mem_of_getElem? (i := 535) (by decide +kernel), List.mem_of_getElem? (i := 536) (by decide +kernel)⟩
theorem lw_p18 : lw_okq (⟨"BeggarKings$Text", "advance", "()V"⟩, 9) := ⟨⟨by decide +kernel, by decide +kernel⟩, List.mem_of_getElem? (i := 32) (by decide +kernel), List.mem_of_getElem? (i := 539) (by decide +kernel), List.mem_of_getElem? (i := 540) (by decide +kernel)⟩
theorem lw_p19 : lw_okq (⟨"BeggarKings$Text", "scanWord", "()V"⟩, 9) := ⟨⟨by decide +kernel, by decide +kernel⟩, List.mem_of_getElem? (i := 32) (by decide +kernel), List.mem_of_getElem? (i := 550) (by decide +kernel), List.mem_of_getElem? (i := 551) (by decide +kernel)⟩
theorem lw_p20 : lw_okq (⟨"BeggarKings$Text", "scanNumber", "()V"⟩, 9) := ⟨⟨by decide +kernel, by decide +kernel⟩, List.mem_of_getElem? (i := 32) (by decide +kernel), List.mem_of_getElem? (i := 557) (by decide +kernel), List.mem_of_getElem? (i := 558) (by decide +kernel)⟩
theorem lw_p21 : lw_okq (⟨"BeggarKings$Text", "takeWord", "(Ljava/lang/String;)V"⟩, 9) := ⟨⟨by decide +kernel, by decide +kernel⟩, List.mem_of_getElem? (i := 32) (by decide +kernel), List.mem_of_getElem? (i := 566) (by decide +kernel), List.mem_of_getElem? (i := 567) (by decide +kernel)⟩
theorem lw_p22 : lw_okq (⟨"BeggarKings$Text", "isAtWord", "(Ljava/lang/String;)Z"⟩, 9) := ⟨⟨by decide +kernel, by decide +kernel⟩, List.mem_of_getElem? (i := 32) (by decide +kernel), List.mem_of_getElem? (i := 570) (by decide +kernel), List.mem_of_getElem? (i := 571) (by decide +kernel)⟩
theorem lw_p23 : lw_okq (⟨"BeggarKings$Text", "fail", "(I)V"⟩, 9) := ⟨⟨by decide +kernel, by decide +kernel⟩, List.mem_of_getElem? (i := 32) (by decide +kernel), List.mem_of_getElem? (i := 576) (by decide +kernel), List.mem_of_getElem? (i := 577) (by decide +kernel)⟩
theorem lw_p24 : lw_okq (⟨"BeggarKings$Text", "takeNumber", "(II)I"⟩, 9) := ⟨⟨by decide +kernel, by decide +kernel⟩, List.mem_of_getElem? (i := 32) (by decide +kernel), List.mem_of_getElem? (i := 580) (by decide +kernel), List.mem_of_getElem? (i := 581) (by decide +kernel)⟩
theorem lw_p25 : lw_okq (⟨"BeggarKings$Text", "takeSemicolon", "()V"⟩, 9) := ⟨⟨by decide +kernel, by decide +kernel⟩, List.mem_of_getElem? (i := 32) (by decide +kernel), List.mem_of_getElem? (i := 584) (by decide +kernel), List.mem_of_getElem? (i := 585) (by decide +kernel)⟩
theorem lw_p26 : lw_okq (⟨"BeggarKings$Text", "takeEither", "(Ljava/lang/String;Ljava/lang/String;)I"⟩, 9) := ⟨⟨by decide +kernel, by decide +kernel⟩, List.mem_of_getElem? (i := 32) (by decide +kernel), List.mem_of_getElem? (i := 601) (by decide +kernel), List.mem_of_getElem? (i := 602) (by decide +kernel)⟩
theorem lw_p27 : lw_okq (⟨"BeggarKings$Text", "isAtEnd", "()Z"⟩, 9) := ⟨⟨by decide +kernel, by decide +kernel⟩, List.mem_of_getElem? (i := 32) (by decide +kernel), List.mem_of_getElem? (i := 614) (by decide +kernel), List.mem_of_getElem? (i := 615) (by decide +kernel)⟩
theorem lw_p28 : lw_okq (⟨"BeggarKings$Text", "hasFailed", "()Z"⟩, 9) := ⟨⟨by decide +kernel, by decide +kernel⟩, List.mem_of_getElem? (i := 32) (by decide +kernel), List.mem_of_getElem? (i := 618) (by decide +kernel), List.mem_of_getElem? (i := 619) (by decide +kernel)⟩
theorem lw_p29 : lw_okq (⟨"BeggarKings$Setting", "copyFrom", "(LBeggarKings$Setting;)V"⟩, 14) := ⟨⟨by decide +kernel, by decide +kernel⟩, List.mem_of_getElem? (i := 70) (by decide +kernel), List.mem_of_getElem? (i := 622) (by decide +kernel), List.mem_of_getElem? (i := 623) (by decide +kernel)⟩
theorem lw_p30 : lw_okq (⟨"BeggarKings$History", "clear", "()V"⟩, 3) := ⟨⟨by decide +kernel, by decide +kernel⟩, List.mem_of_getElem? (i := 211) (by decide +kernel), List.mem_of_getElem? (i := 627) (by decide +kernel), List.mem_of_getElem? (i := 628) (by decide +kernel)⟩
theorem lw_p31 : lw_okq (⟨"BeggarKingsLaw", "acts", "(LBeggarKings;I)Z"⟩, 5) := ⟨⟨by decide +kernel, by decide +kernel⟩, List.mem_of_getElem? (i := 347) (by decide +kernel), List.mem_of_getElem? (i := 647) (by decide +kernel), List.mem_of_getElem? (i := 648) (by decide +kernel)⟩
def lw_privs_2 : List (MethodName × Nat) := [(⟨"java/lang/Throwable", "fillInStackTrace", "(I)Ljava/lang/Throwable;"⟩, 6), (⟨"BeggarKings$Text", "open", "(I)V"⟩, 9), (⟨"BeggarKings$Text", "advance", "()V"⟩, 9), (⟨"BeggarKings$Text", "scanWord", "()V"⟩, 9), (⟨"BeggarKings$Text", "scanNumber", "()V"⟩, 9), (⟨"BeggarKings$Text", "takeWord", "(Ljava/lang/String;)V"⟩, 9), (⟨"BeggarKings$Text", "isAtWord", "(Ljava/lang/String;)Z"⟩, 9), (⟨"BeggarKings$Text", "fail", "(I)V"⟩, 9), (⟨"BeggarKings$Text", "takeNumber", "(II)I"⟩, 9), (⟨"BeggarKings$Text", "takeSemicolon", "()V"⟩, 9), (⟨"BeggarKings$Text", "takeEither", "(Ljava/lang/String;Ljava/lang/String;)I"⟩, 9), (⟨"BeggarKings$Text", "isAtEnd", "()Z"⟩, 9), (⟨"BeggarKings$Text", "hasFailed", "()Z"⟩, 9), (⟨"BeggarKings$Setting", "copyFrom", "(LBeggarKings$Setting;)V"⟩, 14), (⟨"BeggarKings$History", "clear", "()V"⟩, 3), (⟨"BeggarKingsLaw", "acts", "(LBeggarKings;I)Z"⟩, 5)]
theorem lw_r2 : ∀ q ∈ lw_privs_2, lw_okq q := List.forall_mem_cons.mpr ⟨lw_p16, List.forall_mem_cons.mpr ⟨lw_p17, List.forall_mem_cons.mpr ⟨lw_p18, List.forall_mem_cons.mpr ⟨lw_p19, List.forall_mem_cons.mpr ⟨lw_p20, List.forall_mem_cons.mpr ⟨lw_p21, List.forall_mem_cons.mpr ⟨lw_p22, List.forall_mem_cons.mpr ⟨lw_p23, List.forall_mem_cons.mpr ⟨lw_p24, List.forall_mem_cons.mpr ⟨lw_p25, List.forall_mem_cons.mpr ⟨lw_p26, List.forall_mem_cons.mpr ⟨lw_p27, List.forall_mem_cons.mpr ⟨lw_p28, List.forall_mem_cons.mpr ⟨lw_p29, List.forall_mem_cons.mpr ⟨lw_p30, List.forall_mem_cons.mpr ⟨lw_p31, fun _ h => absurd h List.not_mem_nil⟩⟩⟩⟩⟩⟩⟩⟩⟩⟩⟩⟩⟩⟩⟩⟩
theorem lw_p32 : lw_okq (⟨"BeggarKingsLaw", "king", "(LBeggarKings;I)I"⟩, 5) := ⟨⟨by decide +kernel, by decide +kernel⟩, List.mem_of_getElem? (i := 347) (by decide +kernel), List.mem_of_getElem? (i := 651) (by decide +kernel), List.mem_of_getElem? (i := 652) (by decide +kernel)⟩
theorem lw_p33 : lw_okq (⟨"BeggarKings", "requirePerson", "(I)V"⟩, 11) := ⟨⟨by decide +kernel, by decide +kernel⟩, List.mem_of_getElem? (i := 24) (by decide +kernel), List.mem_of_getElem? (i := 659) (by decide +kernel), List.mem_of_getElem? (i := 660) (by decide +kernel)⟩
theorem lw_p34 : lw_okq (⟨"BeggarKings", "allow", "(LBeggarKings$Verb;II)V"⟩, 11) := ⟨⟨by decide +kernel, by decide +kernel⟩, List.mem_of_getElem? (i := 24) (by decide +kernel), List.mem_of_getElem? (i := 692) (by decide +kernel), List.mem_of_getElem? (i := 693) (by decide +kernel)⟩
theorem lw_p35 : lw_okq (⟨"BeggarKings$Position", "faultOf", "(LBeggarKings$Verb;II)I"⟩, 15) := ⟨⟨by decide +kernel, by decide +kernel⟩, List.mem_of_getElem? (i := 131) (by decide +kernel), List.mem_of_getElem? (i := 696) (by decide +kernel), List.mem_of_getElem? (i := 697) (by decide +kernel)⟩
theorem lw_p36 : lw_okq (⟨"BeggarKings$Position", "isSound", "(LBeggarKings$Verb;II)Z"⟩, 15) := ⟨⟨by decide +kernel, by decide +kernel⟩, List.mem_of_getElem? (i := 131) (by decide +kernel), List.mem_of_getElem? (i := 701) (by decide +kernel), List.mem_of_getElem? (i := 702) (by decide +kernel)⟩
theorem lw_p37 : lw_okq (⟨"BeggarKings$Verb", "allows", "(I)Z"⟩, 8) := ⟨⟨by decide +kernel, by decide +kernel⟩, List.mem_of_getElem? (i := 715) (by decide +kernel), List.mem_of_getElem? (i := 713) (by decide +kernel), List.mem_of_getElem? (i := 714) (by decide +kernel)⟩
theorem lw_p38 : lw_okq (⟨"BeggarKings$Position", "isPossible", "(LBeggarKings$Verb;II)Z"⟩, 15) := ⟨⟨by decide +kernel, by decide +kernel⟩, List.mem_of_getElem? (i := 131) (by decide +kernel), List.mem_of_getElem? (i := 718) (by decide +kernel), List.mem_of_getElem? (i := 719) (by decide +kernel)⟩
theorem lw_p39 : lw_okq (⟨"BeggarKings$Position", "offerOf", "(I)I"⟩, 15) := ⟨⟨by decide +kernel, by decide +kernel⟩, List.mem_of_getElem? (i := 131) (by decide +kernel), List.mem_of_getElem? (i := 722) (by decide +kernel), List.mem_of_getElem? (i := 723) (by decide +kernel)⟩
theorem lw_p40 : lw_okq (⟨"BeggarKings$Position", "queueOn", "(I)LBeggarKings$Queue;"⟩, 15) := ⟨⟨by decide +kernel, by decide +kernel⟩, List.mem_of_getElem? (i := 131) (by decide +kernel), List.mem_of_getElem? (i := 726) (by decide +kernel), List.mem_of_getElem? (i := 727) (by decide +kernel)⟩
theorem lw_p41 : lw_okq (⟨"BeggarKings$Queue", "placeOf", "(I)I"⟩, 3) := ⟨⟨by decide +kernel, by decide +kernel⟩, List.mem_of_getElem? (i := 137) (by decide +kernel), List.mem_of_getElem? (i := 730) (by decide +kernel), List.mem_of_getElem? (i := 731) (by decide +kernel)⟩
theorem lw_p42 : lw_okq (⟨"BeggarKings$Queue", "offerAt", "(I)I"⟩, 3) := ⟨⟨by decide +kernel, by decide +kernel⟩, List.mem_of_getElem? (i := 137) (by decide +kernel), List.mem_of_getElem? (i := 735) (by decide +kernel), List.mem_of_getElem? (i := 736) (by decide +kernel)⟩
theorem lw_p43 : lw_okq (⟨"BeggarKings$History", "push", "(LBeggarKings$Position;)V"⟩, 3) := ⟨⟨by decide +kernel, by decide +kernel⟩, List.mem_of_getElem? (i := 211) (by decide +kernel), List.mem_of_getElem? (i := 756) (by decide +kernel), List.mem_of_getElem? (i := 757) (by decide +kernel)⟩
theorem lw_p44 : lw_okq (⟨"BeggarKings$Position", "copyFrom", "(LBeggarKings$Position;)V"⟩, 15) := ⟨⟨by decide +kernel, by decide +kernel⟩, List.mem_of_getElem? (i := 131) (by decide +kernel), List.mem_of_getElem? (i := 760) (by decide +kernel), List.mem_of_getElem? (i := 761) (by decide +kernel)⟩
theorem lw_p45 : lw_okq (⟨"BeggarKings$Queue", "copyFrom", "(LBeggarKings$Queue;)V"⟩, 3) := ⟨⟨by decide +kernel, by decide +kernel⟩, List.mem_of_getElem? (i := 137) (by decide +kernel), List.mem_of_getElem? (i := 764) (by decide +kernel), List.mem_of_getElem? (i := 765) (by decide +kernel)⟩
theorem lw_p46 : lw_okq (⟨"BeggarKings$Position", "drop", "(II)I"⟩, 15) := ⟨⟨by decide +kernel, by decide +kernel⟩, List.mem_of_getElem? (i := 131) (by decide +kernel), List.mem_of_getElem? (i := 770) (by decide +kernel), List.mem_of_getElem? (i := 771) (by decide +kernel)⟩
theorem lw_p47 : lw_okq (⟨"BeggarKings$Position", "pick", "(II)I"⟩, 15) := ⟨⟨by decide +kernel, by decide +kernel⟩, List.mem_of_getElem? (i := 131) (by decide +kernel), List.mem_of_getElem? (i := 795) (by decide +kernel), List.mem_of_getElem? (i := 796) (by decide +kernel)⟩
def lw_privs_3 : List (MethodName × Nat) := [(⟨"BeggarKingsLaw", "king", "(LBeggarKings;I)I"⟩, 5), (⟨"BeggarKings", "requirePerson", "(I)V"⟩, 11), (⟨"BeggarKings", "allow", "(LBeggarKings$Verb;II)V"⟩, 11), (⟨"BeggarKings$Position", "faultOf", "(LBeggarKings$Verb;II)I"⟩, 15), (⟨"BeggarKings$Position", "isSound", "(LBeggarKings$Verb;II)Z"⟩, 15), (⟨"BeggarKings$Verb", "allows", "(I)Z"⟩, 8), (⟨"BeggarKings$Position", "isPossible", "(LBeggarKings$Verb;II)Z"⟩, 15), (⟨"BeggarKings$Position", "offerOf", "(I)I"⟩, 15), (⟨"BeggarKings$Position", "queueOn", "(I)LBeggarKings$Queue;"⟩, 15), (⟨"BeggarKings$Queue", "placeOf", "(I)I"⟩, 3), (⟨"BeggarKings$Queue", "offerAt", "(I)I"⟩, 3), (⟨"BeggarKings$History", "push", "(LBeggarKings$Position;)V"⟩, 3), (⟨"BeggarKings$Position", "copyFrom", "(LBeggarKings$Position;)V"⟩, 15), (⟨"BeggarKings$Queue", "copyFrom", "(LBeggarKings$Queue;)V"⟩, 3), (⟨"BeggarKings$Position", "drop", "(II)I"⟩, 15), (⟨"BeggarKings$Position", "pick", "(II)I"⟩, 15)]
theorem lw_r3 : ∀ q ∈ lw_privs_3, lw_okq q := List.forall_mem_cons.mpr ⟨lw_p32, List.forall_mem_cons.mpr ⟨lw_p33, List.forall_mem_cons.mpr ⟨lw_p34, List.forall_mem_cons.mpr ⟨lw_p35, List.forall_mem_cons.mpr ⟨lw_p36, List.forall_mem_cons.mpr ⟨lw_p37, List.forall_mem_cons.mpr ⟨lw_p38, List.forall_mem_cons.mpr ⟨lw_p39, List.forall_mem_cons.mpr ⟨lw_p40, List.forall_mem_cons.mpr ⟨lw_p41, List.forall_mem_cons.mpr ⟨lw_p42, List.forall_mem_cons.mpr ⟨lw_p43, List.forall_mem_cons.mpr ⟨lw_p44, List.forall_mem_cons.mpr ⟨lw_p45, List.forall_mem_cons.mpr ⟨lw_p46, List.forall_mem_cons.mpr ⟨lw_p47, fun _ h => absurd h List.not_mem_nil⟩⟩⟩⟩⟩⟩⟩⟩⟩⟩⟩⟩⟩⟩⟩⟩
theorem lw_p48 : lw_okq (⟨"BeggarKings", "requireKing", "(I)V"⟩, 11) := ⟨⟨by decide +kernel, by decide +kernel⟩, List.mem_of_getElem? (i := 24) (by decide +kernel), List.mem_of_getElem? (i := 803) (by decide +kernel), List.mem_of_getElem? (i := 804) (by decide +kernel)⟩
theorem lw_p49 : lw_okq (⟨"BeggarKings$Position", "lay", "(II)I"⟩, 15) := ⟨⟨by decide +kernel, by decide +kernel⟩, List.mem_of_getElem? (i := 131) (by decide +kernel), List.mem_of_getElem? (i := 814) (by decide +kernel), List.mem_of_getElem? (i := 815) (by decide +kernel)⟩
theorem lw_p50 : lw_okq (⟨"BeggarKings$Position", "royalCoinsOf", "(I)I"⟩, 15) := ⟨⟨by decide +kernel, by decide +kernel⟩, List.mem_of_getElem? (i := 131) (by decide +kernel), List.mem_of_getElem? (i := 818) (by decide +kernel), List.mem_of_getElem? (i := 819) (by decide +kernel)⟩
theorem lw_p51 : lw_okq (⟨"BeggarKings$Position", "royalCoinBank", "(I)I"⟩, 15) := ⟨⟨by decide +kernel, by decide +kernel⟩, List.mem_of_getElem? (i := 131) (by decide +kernel), List.mem_of_getElem? (i := 826) (by decide +kernel), List.mem_of_getElem? (i := 827) (by decide +kernel)⟩
theorem lw_p52 : lw_okq (⟨"BeggarKings$Position", "lift", "(II)I"⟩, 15) := ⟨⟨by decide +kernel, by decide +kernel⟩, List.mem_of_getElem? (i := 131) (by decide +kernel), List.mem_of_getElem? (i := 836) (by decide +kernel), List.mem_of_getElem? (i := 837) (by decide +kernel)⟩
theorem lw_p53 : lw_okq (⟨"BeggarKings$Position", "swap", "(II)I"⟩, 15) := ⟨⟨by decide +kernel, by decide +kernel⟩, List.mem_of_getElem? (i := 131) (by decide +kernel), List.mem_of_getElem? (i := 846) (by decide +kernel), List.mem_of_getElem? (i := 847) (by decide +kernel)⟩
theorem lw_p54 : lw_okq (⟨"BeggarKings$Position", "join", "(II)I"⟩, 15) := ⟨⟨by decide +kernel, by decide +kernel⟩, List.mem_of_getElem? (i := 131) (by decide +kernel), List.mem_of_getElem? (i := 861) (by decide +kernel), List.mem_of_getElem? (i := 862) (by decide +kernel)⟩
theorem lw_p55 : lw_okq (⟨"BeggarKings$Queue", "insert", "(II)I"⟩, 3) := ⟨⟨by decide +kernel, by decide +kernel⟩, List.mem_of_getElem? (i := 137) (by decide +kernel), List.mem_of_getElem? (i := 865) (by decide +kernel), List.mem_of_getElem? (i := 866) (by decide +kernel)⟩
theorem lw_p56 : lw_okq (⟨"BeggarKings$Position", "quit", "(I)I"⟩, 15) := ⟨⟨by decide +kernel, by decide +kernel⟩, List.mem_of_getElem? (i := 131) (by decide +kernel), List.mem_of_getElem? (i := 876) (by decide +kernel), List.mem_of_getElem? (i := 877) (by decide +kernel)⟩
theorem lw_p57 : lw_okq (⟨"BeggarKings$Queue", "removeAt", "(I)V"⟩, 3) := ⟨⟨by decide +kernel, by decide +kernel⟩, List.mem_of_getElem? (i := 137) (by decide +kernel), List.mem_of_getElem? (i := 880) (by decide +kernel), List.mem_of_getElem? (i := 881) (by decide +kernel)⟩
theorem lw_p58 : lw_okq (⟨"BeggarKings$Position", "changePride", "(II)I"⟩, 15) := ⟨⟨by decide +kernel, by decide +kernel⟩, List.mem_of_getElem? (i := 131) (by decide +kernel), List.mem_of_getElem? (i := 890) (by decide +kernel), List.mem_of_getElem? (i := 891) (by decide +kernel)⟩
theorem lw_p59 : lw_okq (⟨"BeggarKings$Position", "passSeveral", "(I)I"⟩, 15) := ⟨⟨by decide +kernel, by decide +kernel⟩, List.mem_of_getElem? (i := 131) (by decide +kernel), List.mem_of_getElem? (i := 900) (by decide +kernel), List.mem_of_getElem? (i := 901) (by decide +kernel)⟩
theorem lw_p60 : lw_okq (⟨"BeggarKings$Position", "passTurn", "()I"⟩, 15) := ⟨⟨by decide +kernel, by decide +kernel⟩, List.mem_of_getElem? (i := 131) (by decide +kernel), List.mem_of_getElem? (i := 904) (by decide +kernel), List.mem_of_getElem? (i := 905) (by decide +kernel)⟩
theorem lw_p61 : lw_okq (⟨"BeggarKings$Position", "departureBank", "()I"⟩, 15) := ⟨⟨by decide +kernel, by decide +kernel⟩, List.mem_of_getElem? (i := 131) (by decide +kernel), List.mem_of_getElem? (i := 908) (by decide +kernel), List.mem_of_getElem? (i := 909) (by decide +kernel)⟩
theorem lw_p62 : lw_okq (⟨"BeggarKings$Setting", "opens", "(II)Z"⟩, 14) := ⟨⟨by decide +kernel, by decide +kernel⟩, List.mem_of_getElem? (i := 70) (by decide +kernel), List.mem_of_getElem? (i := 912) (by decide +kernel), List.mem_of_getElem? (i := 913) (by decide +kernel)⟩
theorem lw_p63 : lw_okq (⟨"BeggarKings$Position", "letFirstTry", "(LBeggarKings$Queue;)I"⟩, 15) := ⟨⟨by decide +kernel, by decide +kernel⟩, List.mem_of_getElem? (i := 131) (by decide +kernel), List.mem_of_getElem? (i := 916) (by decide +kernel), List.mem_of_getElem? (i := 917) (by decide +kernel)⟩
def lw_privs_4 : List (MethodName × Nat) := [(⟨"BeggarKings", "requireKing", "(I)V"⟩, 11), (⟨"BeggarKings$Position", "lay", "(II)I"⟩, 15), (⟨"BeggarKings$Position", "royalCoinsOf", "(I)I"⟩, 15), (⟨"BeggarKings$Position", "royalCoinBank", "(I)I"⟩, 15), (⟨"BeggarKings$Position", "lift", "(II)I"⟩, 15), (⟨"BeggarKings$Position", "swap", "(II)I"⟩, 15), (⟨"BeggarKings$Position", "join", "(II)I"⟩, 15), (⟨"BeggarKings$Queue", "insert", "(II)I"⟩, 3), (⟨"BeggarKings$Position", "quit", "(I)I"⟩, 15), (⟨"BeggarKings$Queue", "removeAt", "(I)V"⟩, 3), (⟨"BeggarKings$Position", "changePride", "(II)I"⟩, 15), (⟨"BeggarKings$Position", "passSeveral", "(I)I"⟩, 15), (⟨"BeggarKings$Position", "passTurn", "()I"⟩, 15), (⟨"BeggarKings$Position", "departureBank", "()I"⟩, 15), (⟨"BeggarKings$Setting", "opens", "(II)Z"⟩, 14), (⟨"BeggarKings$Position", "letFirstTry", "(LBeggarKings$Queue;)I"⟩, 15)]
theorem lw_r4 : ∀ q ∈ lw_privs_4, lw_okq q := List.forall_mem_cons.mpr ⟨lw_p48, List.forall_mem_cons.mpr ⟨lw_p49, List.forall_mem_cons.mpr ⟨lw_p50, List.forall_mem_cons.mpr ⟨lw_p51, List.forall_mem_cons.mpr ⟨lw_p52, List.forall_mem_cons.mpr ⟨lw_p53, List.forall_mem_cons.mpr ⟨lw_p54, List.forall_mem_cons.mpr ⟨lw_p55, List.forall_mem_cons.mpr ⟨lw_p56, List.forall_mem_cons.mpr ⟨lw_p57, List.forall_mem_cons.mpr ⟨lw_p58, List.forall_mem_cons.mpr ⟨lw_p59, List.forall_mem_cons.mpr ⟨lw_p60, List.forall_mem_cons.mpr ⟨lw_p61, List.forall_mem_cons.mpr ⟨lw_p62, List.forall_mem_cons.mpr ⟨lw_p63, fun _ h => absurd h List.not_mem_nil⟩⟩⟩⟩⟩⟩⟩⟩⟩⟩⟩⟩⟩⟩⟩⟩
theorem lw_p64 : lw_okq (⟨"BeggarKings$Queue", "personAt", "(I)I"⟩, 3) := ⟨⟨by decide +kernel, by decide +kernel⟩, List.mem_of_getElem? (i := 137) (by decide +kernel), List.mem_of_getElem? (i := 920) (by decide +kernel), List.mem_of_getElem? (i := 921) (by decide +kernel)⟩
theorem lw_p65 : lw_okq (⟨"BeggarKings$Position", "keeperAngleIn", "(II)I"⟩, 15) := ⟨⟨by decide +kernel, by decide +kernel⟩, List.mem_of_getElem? (i := 131) (by decide +kernel), List.mem_of_getElem? (i := 924) (by decide +kernel), List.mem_of_getElem? (i := 925) (by decide +kernel)⟩
theorem lw_p66 : lw_okq (⟨"BeggarKings$Setting", "tollFor", "(Z)I"⟩, 14) := ⟨⟨by decide +kernel, by decide +kernel⟩, List.mem_of_getElem? (i := 70) (by decide +kernel), List.mem_of_getElem? (i := 931) (by decide +kernel), List.mem_of_getElem? (i := 932) (by decide +kernel)⟩
theorem lw_p67 : lw_okq (⟨"BeggarKings$Position", "countRoyalCoinsOf", "(I)V"⟩, 15) := ⟨⟨by decide +kernel, by decide +kernel⟩, List.mem_of_getElem? (i := 131) (by decide +kernel), List.mem_of_getElem? (i := 935) (by decide +kernel), List.mem_of_getElem? (i := 936) (by decide +kernel)⟩
theorem lw_p68 : lw_okq (⟨"BeggarKings$Position", "learn", "(ZZ)V"⟩, 15) := ⟨⟨by decide +kernel, by decide +kernel⟩, List.mem_of_getElem? (i := 131) (by decide +kernel), List.mem_of_getElem? (i := 939) (by decide +kernel), List.mem_of_getElem? (i := 940) (by decide +kernel)⟩
theorem lw_p69 : lw_okq (⟨"BeggarKingsLaw", "coins", "(LBeggarKings;)I"⟩, 5) := ⟨⟨by decide +kernel, by decide +kernel⟩, List.mem_of_getElem? (i := 347) (by decide +kernel), List.mem_of_getElem? (i := 947) (by decide +kernel), List.mem_of_getElem? (i := 948) (by decide +kernel)⟩
theorem lw_p70 : lw_okq (⟨"BeggarKingsLaw", "crossed", "(LBeggarKings;)I"⟩, 5) := ⟨⟨by decide +kernel, by decide +kernel⟩, List.mem_of_getElem? (i := 347) (by decide +kernel), List.mem_of_getElem? (i := 951) (by decide +kernel), List.mem_of_getElem? (i := 952) (by decide +kernel)⟩
theorem lw_p71 : lw_okq (⟨"BeggarKingsLaw", "isWell", "(LBeggarKings;)Z"⟩, 5) := ⟨⟨by decide +kernel, by decide +kernel⟩, List.mem_of_getElem? (i := 347) (by decide +kernel), List.mem_of_getElem? (i := 959) (by decide +kernel), List.mem_of_getElem? (i := 960) (by decide +kernel)⟩
theorem lw_p72 : lw_okq (⟨"BeggarKings$Position", "wearerOf", "(I)I"⟩, 15) := ⟨⟨by decide +kernel, by decide +kernel⟩, List.mem_of_getElem? (i := 131) (by decide +kernel), List.mem_of_getElem? (i := 971) (by decide +kernel), List.mem_of_getElem? (i := 972) (by decide +kernel)⟩
theorem lw_p73 : lw_okq (⟨"BeggarKings$Setting", "kingsInAll", "()I"⟩, 14) := ⟨⟨by decide +kernel, by decide +kernel⟩, List.mem_of_getElem? (i := 70) (by decide +kernel), List.mem_of_getElem? (i := 988) (by decide +kernel), List.mem_of_getElem? (i := 989) (by decide +kernel)⟩
theorem lw_p74 : lw_okq (⟨"BeggarKings$Position", "peopleOn", "(I)I"⟩, 15) := ⟨⟨by decide +kernel, by decide +kernel⟩, List.mem_of_getElem? (i := 131) (by decide +kernel), List.mem_of_getElem? (i := 996) (by decide +kernel), List.mem_of_getElem? (i := 997) (by decide +kernel)⟩
theorem lw_p75 : lw_okq (⟨"BeggarKingsLaw", "isOrdered", "(LBeggarKings;Z)Z"⟩, 5) := ⟨⟨by decide +kernel, by decide +kernel⟩, List.mem_of_getElem? (i := 347) (by decide +kernel), List.mem_of_getElem? (i := 1000) (by decide +kernel), List.mem_of_getElem? (i := 1001) (by decide +kernel)⟩
def lw_privs_5 : List (MethodName × Nat) := [(⟨"BeggarKings$Queue", "personAt", "(I)I"⟩, 3), (⟨"BeggarKings$Position", "keeperAngleIn", "(II)I"⟩, 15), (⟨"BeggarKings$Setting", "tollFor", "(Z)I"⟩, 14), (⟨"BeggarKings$Position", "countRoyalCoinsOf", "(I)V"⟩, 15), (⟨"BeggarKings$Position", "learn", "(ZZ)V"⟩, 15), (⟨"BeggarKingsLaw", "coins", "(LBeggarKings;)I"⟩, 5), (⟨"BeggarKingsLaw", "crossed", "(LBeggarKings;)I"⟩, 5), (⟨"BeggarKingsLaw", "isWell", "(LBeggarKings;)Z"⟩, 5), (⟨"BeggarKings$Position", "wearerOf", "(I)I"⟩, 15), (⟨"BeggarKings$Setting", "kingsInAll", "()I"⟩, 14), (⟨"BeggarKings$Position", "peopleOn", "(I)I"⟩, 15), (⟨"BeggarKingsLaw", "isOrdered", "(LBeggarKings;Z)Z"⟩, 5)]
theorem lw_r5 : ∀ q ∈ lw_privs_5, lw_okq q := List.forall_mem_cons.mpr ⟨lw_p64, List.forall_mem_cons.mpr ⟨lw_p65, List.forall_mem_cons.mpr ⟨lw_p66, List.forall_mem_cons.mpr ⟨lw_p67, List.forall_mem_cons.mpr ⟨lw_p68, List.forall_mem_cons.mpr ⟨lw_p69, List.forall_mem_cons.mpr ⟨lw_p70, List.forall_mem_cons.mpr ⟨lw_p71, List.forall_mem_cons.mpr ⟨lw_p72, List.forall_mem_cons.mpr ⟨lw_p73, List.forall_mem_cons.mpr ⟨lw_p74, List.forall_mem_cons.mpr ⟨lw_p75, fun _ h => absurd h List.not_mem_nil⟩⟩⟩⟩⟩⟩⟩⟩⟩⟩⟩⟩
def lw_privs : List (MethodName × Nat) := lw_privs_1 ++ (lw_privs_2 ++ (lw_privs_3 ++ (lw_privs_4 ++ (lw_privs_5))))
def lw_tbl : List Cond := k2_sels lw_privs ++ tables_1
theorem lw_privs_ok : ∀ q ∈ lw_privs, lw_okq q := by
  show ∀ q ∈ lw_privs_1 ++ (lw_privs_2 ++ (lw_privs_3 ++ (lw_privs_4 ++ (lw_privs_5)))), lw_okq q
  exact List.forall_mem_append.mpr ⟨lw_r1, List.forall_mem_append.mpr ⟨lw_r2, List.forall_mem_append.mpr ⟨lw_r3, List.forall_mem_append.mpr ⟨lw_r4, lw_r5⟩⟩⟩⟩
-- ===== end of PART A; then your names; then what follows =====
end
section
def RX0 : String := "BeggarKings$1"
def TX0 : u_T := fun k => match k with
  | _ => ("", "", "", false)
def tyX0 : Nat → FieldType := fun k => match k with
  | _ => .int
abbrev wsX00 : List Cond := u_ws RX0 TX0 0
theorem nmX0 : ∀ a, a < 0 → ∀ b, b < 0 → a ≠ b → (TX0 a).2.1 ≠ (TX0 b).2.1 := by decide +kernel
theorem tyX0_ok : ∀ k, k < 0 → parseFieldDescriptor (TX0 k).2.2.1 = some (tyX0 k) := by decide +kernel
def RX1 : String := "BeggarKings$History"
def TX1 : u_T := fun k => match k with
  | 0 => ("BeggarKings$History", "ring", "[LBeggarKings$Position;", true)
  | 1 => ("BeggarKings$History", "next", "I", false)
  | _ => ("BeggarKings$History", "count", "I", false)
def tyX1 : Nat → FieldType := fun k => match k with
  | 0 => .array (.object "BeggarKings$Position")
  | 1 => .int
  | _ => .int
abbrev wsX10 : List Cond := u_ws RX1 TX1 3
theorem nmX1 : ∀ a, a < 3 → ∀ b, b < 3 → a ≠ b → (TX1 a).2.1 ≠ (TX1 b).2.1 := by decide +kernel
theorem tyX1_ok : ∀ k, k < 3 → parseFieldDescriptor (TX1 k).2.2.1 = some (tyX1 k) := by decide +kernel
abbrev cX1_init : ByteArray := prog_3_method_1_code
def yX1_init : MethodName := ⟨RX1, "<init>", "(LBeggarKings$Setting;)V"⟩
abbrev cX1_clear : ByteArray := prog_3_method_2_code
def yX1_clear : MethodName := ⟨RX1, "clear", "()V"⟩
abbrev cX1_push : ByteArray := prog_3_method_3_code
def yX1_push : MethodName := ⟨RX1, "push", "(LBeggarKings$Position;)V"⟩
def RX2 : String := "BeggarKings$Position"
def TX2 : u_T := fun k => match k with
  | 0 => ("BeggarKings$Position", "setting", "LBeggarKings$Setting;", true)
  | 1 => ("BeggarKings$Position", "now", "I", false)
  | 2 => ("BeggarKings$Position", "limit", "I", false)
  | 3 => ("BeggarKings$Position", "box", "I", false)
  | 4 => ("BeggarKings$Position", "ground", "[I", true)
  | 5 => ("BeggarKings$Position", "banks", "[I", true)
  | 6 => ("BeggarKings$Position", "purses", "[I", true)
  | 7 => ("BeggarKings$Position", "prides", "[I", true)
  | 8 => ("BeggarKings$Position", "worn", "[I", true)
  | 9 => ("BeggarKings$Position", "crossed", "[I", true)
  | 10 => ("BeggarKings$Position", "holders", "[I", true)
  | 11 => ("BeggarKings$Position", "layingBanks", "[I", true)
  | 12 => ("BeggarKings$Position", "counted", "[I", true)
  | 13 => ("BeggarKings$Position", "west", "LBeggarKings$Queue;", true)
  | _ => ("BeggarKings$Position", "east", "LBeggarKings$Queue;", true)
def tyX2 : Nat → FieldType := fun k => match k with
  | 0 => .object "BeggarKings$Setting"
  | 1 => .int
  | 2 => .int
  | 3 => .int
  | 4 => .array .int
  | 5 => .array .int
  | 6 => .array .int
  | 7 => .array .int
  | 8 => .array .int
  | 9 => .array .int
  | 10 => .array .int
  | 11 => .array .int
  | 12 => .array .int
  | 13 => .object "BeggarKings$Queue"
  | _ => .object "BeggarKings$Queue"
abbrev wsX20 : List Cond := u_ws RX2 TX2 15
theorem nmX2 : ∀ a, a < 15 → ∀ b, b < 15 → a ≠ b → (TX2 a).2.1 ≠ (TX2 b).2.1 := by decide +kernel
theorem tyX2_ok : ∀ k, k < 15 → parseFieldDescriptor (TX2 k).2.2.1 = some (tyX2 k) := by decide +kernel
abbrev cX2_init : ByteArray := prog_4_method_1_code
def yX2_init : MethodName := ⟨RX2, "<init>", "(LBeggarKings$Setting;)V"⟩
abbrev cX2_begin : ByteArray := prog_4_method_2_code
def yX2_begin : MethodName := ⟨RX2, "begin", "()V"⟩
abbrev cX2_copyFrom : ByteArray := prog_4_method_3_code
def yX2_copyFrom : MethodName := ⟨RX2, "copyFrom", "(LBeggarKings$Position;)V"⟩
abbrev cX2_peopleOn : ByteArray := prog_4_method_4_code
def yX2_peopleOn : MethodName := ⟨RX2, "peopleOn", "(I)I"⟩
abbrev cX2_wearerOf : ByteArray := prog_4_method_5_code
def yX2_wearerOf : MethodName := ⟨RX2, "wearerOf", "(I)I"⟩
abbrev cX2_coinsInAll : ByteArray := prog_4_method_7_code
def yX2_coinsInAll : MethodName := ⟨RX2, "coinsInAll", "()I"⟩
abbrev cX2_royalCoinBank : ByteArray := prog_4_method_8_code
def yX2_royalCoinBank : MethodName := ⟨RX2, "royalCoinBank", "(I)I"⟩
abbrev cX2_royalCoinsOf : ByteArray := prog_4_method_9_code
def yX2_royalCoinsOf : MethodName := ⟨RX2, "royalCoinsOf", "(I)I"⟩
abbrev cX2_countedInAll : ByteArray := prog_4_method_10_code
def yX2_countedInAll : MethodName := ⟨RX2, "countedInAll", "()I"⟩
abbrev cX2_keeperAngleIn : ByteArray := prog_4_method_13_code
def yX2_keeperAngleIn : MethodName := ⟨RX2, "keeperAngleIn", "(II)I"⟩
abbrev cX2_angleOf : ByteArray := prog_4_method_14_code
def yX2_angleOf : MethodName := ⟨RX2, "angleOf", "(II)I"⟩
abbrev cX2_queueOn : ByteArray := prog_4_method_22_code
def yX2_queueOn : MethodName := ⟨RX2, "queueOn", "(I)LBeggarKings$Queue;"⟩
abbrev cX2_offerOf : ByteArray := prog_4_method_23_code
def yX2_offerOf : MethodName := ⟨RX2, "offerOf", "(I)I"⟩
abbrev cX2_departureBank : ByteArray := prog_4_method_24_code
def yX2_departureBank : MethodName := ⟨RX2, "departureBank", "()I"⟩
abbrev cX2_passSeveral : ByteArray := prog_4_method_25_code
def yX2_passSeveral : MethodName := ⟨RX2, "passSeveral", "(I)I"⟩
abbrev cX2_passTurn : ByteArray := prog_4_method_26_code
def yX2_passTurn : MethodName := ⟨RX2, "passTurn", "()I"⟩
abbrev cX2_letFirstTry : ByteArray := prog_4_method_27_code
def yX2_letFirstTry : MethodName := ⟨RX2, "letFirstTry", "(LBeggarKings$Queue;)I"⟩
abbrev cX2_countRoyalCoinsOf : ByteArray := prog_4_method_28_code
def yX2_countRoyalCoinsOf : MethodName := ⟨RX2, "countRoyalCoinsOf", "(I)V"⟩
abbrev cX2_learn : ByteArray := prog_4_method_29_code
def yX2_learn : MethodName := ⟨RX2, "learn", "(ZZ)V"⟩
abbrev cX2_faultOf : ByteArray := prog_4_method_30_code
def yX2_faultOf : MethodName := ⟨RX2, "faultOf", "(LBeggarKings$Verb;II)I"⟩
abbrev cX2_isSound : ByteArray := prog_4_method_31_code
def yX2_isSound : MethodName := ⟨RX2, "isSound", "(LBeggarKings$Verb;II)Z"⟩
abbrev cX2_isPossible : ByteArray := prog_4_method_32_code
def yX2_isPossible : MethodName := ⟨RX2, "isPossible", "(LBeggarKings$Verb;II)Z"⟩
abbrev cX2_drop : ByteArray := prog_4_method_34_code
def yX2_drop : MethodName := ⟨RX2, "drop", "(II)I"⟩
abbrev cX2_pick : ByteArray := prog_4_method_35_code
def yX2_pick : MethodName := ⟨RX2, "pick", "(II)I"⟩
abbrev cX2_lay : ByteArray := prog_4_method_36_code
def yX2_lay : MethodName := ⟨RX2, "lay", "(II)I"⟩
abbrev cX2_lift : ByteArray := prog_4_method_37_code
def yX2_lift : MethodName := ⟨RX2, "lift", "(II)I"⟩
abbrev cX2_swap : ByteArray := prog_4_method_38_code
def yX2_swap : MethodName := ⟨RX2, "swap", "(II)I"⟩
abbrev cX2_join : ByteArray := prog_4_method_39_code
def yX2_join : MethodName := ⟨RX2, "join", "(II)I"⟩
abbrev cX2_quit : ByteArray := prog_4_method_40_code
def yX2_quit : MethodName := ⟨RX2, "quit", "(I)I"⟩
abbrev cX2_changePride : ByteArray := prog_4_method_41_code
def yX2_changePride : MethodName := ⟨RX2, "changePride", "(II)I"⟩
def RX3 : String := "BeggarKings$Queue"
def TX3 : u_T := fun k => match k with
  | 0 => ("BeggarKings$Queue", "people", "[I", true)
  | 1 => ("BeggarKings$Queue", "offers", "[I", true)
  | _ => ("BeggarKings$Queue", "length", "I", false)
def tyX3 : Nat → FieldType := fun k => match k with
  | 0 => .array .int
  | 1 => .array .int
  | _ => .int
abbrev wsX30 : List Cond := u_ws RX3 TX3 3
theorem nmX3 : ∀ a, a < 3 → ∀ b, b < 3 → a ≠ b → (TX3 a).2.1 ≠ (TX3 b).2.1 := by decide +kernel
theorem tyX3_ok : ∀ k, k < 3 → parseFieldDescriptor (TX3 k).2.2.1 = some (tyX3 k) := by decide +kernel
abbrev cX3_init : ByteArray := prog_5_method_1_code
def yX3_init : MethodName := ⟨RX3, "<init>", "()V"⟩
abbrev cX3_copyFrom : ByteArray := prog_5_method_2_code
def yX3_copyFrom : MethodName := ⟨RX3, "copyFrom", "(LBeggarKings$Queue;)V"⟩
abbrev cX3_personAt : ByteArray := prog_5_method_3_code
def yX3_personAt : MethodName := ⟨RX3, "personAt", "(I)I"⟩
abbrev cX3_offerAt : ByteArray := prog_5_method_4_code
def yX3_offerAt : MethodName := ⟨RX3, "offerAt", "(I)I"⟩
abbrev cX3_placeOf : ByteArray := prog_5_method_5_code
def yX3_placeOf : MethodName := ⟨RX3, "placeOf", "(I)I"⟩
abbrev cX3_insert : ByteArray := prog_5_method_6_code
def yX3_insert : MethodName := ⟨RX3, "insert", "(II)I"⟩
abbrev cX3_removeAt : ByteArray := prog_5_method_7_code
def yX3_removeAt : MethodName := ⟨RX3, "removeAt", "(I)V"⟩
def RX4 : String := "BeggarKings$Script"
def TX4 : u_T := fun k => match k with
  | 0 => ("BeggarKings$Script", "verbs", "[LBeggarKings$Verb;", true)
  | 1 => ("BeggarKings$Script", "firsts", "[I", true)
  | 2 => ("BeggarKings$Script", "seconds", "[I", true)
  | _ => ("BeggarKings$Script", "count", "I", false)
def tyX4 : Nat → FieldType := fun k => match k with
  | 0 => .array (.object "BeggarKings$Verb")
  | 1 => .array .int
  | 2 => .array .int
  | _ => .int
abbrev wsX40 : List Cond := u_ws RX4 TX4 4
theorem nmX4 : ∀ a, a < 4 → ∀ b, b < 4 → a ≠ b → (TX4 a).2.1 ≠ (TX4 b).2.1 := by decide +kernel
theorem tyX4_ok : ∀ k, k < 4 → parseFieldDescriptor (TX4 k).2.2.1 = some (tyX4 k) := by decide +kernel
abbrev cX4_init : ByteArray := prog_6_method_1_code
def yX4_init : MethodName := ⟨RX4, "<init>", "()V"⟩
def RX5 : String := "BeggarKings$Setting"
def TX5 : u_T := fun k => match k with
  | 0 => ("BeggarKings$Setting", "limit", "I", false)
  | 1 => ("BeggarKings$Setting", "step", "I", false)
  | 2 => ("BeggarKings$Setting", "kingToll", "I", false)
  | 3 => ("BeggarKings$Setting", "beggarToll", "I", false)
  | 4 => ("BeggarKings$Setting", "people", "I", false)
  | 5 => ("BeggarKings$Setting", "bridges", "I", false)
  | 6 => ("BeggarKings$Setting", "kings", "[I", true)
  | 7 => ("BeggarKings$Setting", "banks", "[I", true)
  | 8 => ("BeggarKings$Setting", "purses", "[I", true)
  | 9 => ("BeggarKings$Setting", "prides", "[I", true)
  | 10 => ("BeggarKings$Setting", "ranks", "[I", true)
  | 11 => ("BeggarKings$Setting", "periods", "[I", true)
  | 12 => ("BeggarKings$Setting", "phases", "[I", true)
  | _ => ("BeggarKings$Setting", "widths", "[I", true)
def tyX5 : Nat → FieldType := fun k => match k with
  | 0 => .int
  | 1 => .int
  | 2 => .int
  | 3 => .int
  | 4 => .int
  | 5 => .int
  | 6 => .array .int
  | 7 => .array .int
  | 8 => .array .int
  | 9 => .array .int
  | 10 => .array .int
  | 11 => .array .int
  | 12 => .array .int
  | _ => .array .int
abbrev wsX50 : List Cond := u_ws RX5 TX5 14
theorem nmX5 : ∀ a, a < 14 → ∀ b, b < 14 → a ≠ b → (TX5 a).2.1 ≠ (TX5 b).2.1 := by decide +kernel
theorem tyX5_ok : ∀ k, k < 14 → parseFieldDescriptor (TX5 k).2.2.1 = some (tyX5 k) := by decide +kernel
abbrev cX5_init : ByteArray := prog_7_method_1_code
def yX5_init : MethodName := ⟨RX5, "<init>", "()V"⟩
abbrev cX5_begin : ByteArray := prog_7_method_2_code
def yX5_begin : MethodName := ⟨RX5, "begin", "(IIII)V"⟩
abbrev cX5_addPerson : ByteArray := prog_7_method_3_code
def yX5_addPerson : MethodName := ⟨RX5, "addPerson", "(IIIII)V"⟩
abbrev cX5_addBridge : ByteArray := prog_7_method_4_code
def yX5_addBridge : MethodName := ⟨RX5, "addBridge", "(III)V"⟩
abbrev cX5_copyFrom : ByteArray := prog_7_method_5_code
def yX5_copyFrom : MethodName := ⟨RX5, "copyFrom", "(LBeggarKings$Setting;)V"⟩
abbrev cX5_hasPerson : ByteArray := prog_7_method_6_code
def yX5_hasPerson : MethodName := ⟨RX5, "hasPerson", "(I)Z"⟩
abbrev cX5_hasKing : ByteArray := prog_7_method_7_code
def yX5_hasKing : MethodName := ⟨RX5, "hasKing", "(I)Z"⟩
abbrev cX5_kingsInAll : ByteArray := prog_7_method_8_code
def yX5_kingsInAll : MethodName := ⟨RX5, "kingsInAll", "()I"⟩
abbrev cX5_coinsInAll : ByteArray := prog_7_method_9_code
def yX5_coinsInAll : MethodName := ⟨RX5, "coinsInAll", "()I"⟩
abbrev cX5_tollFor : ByteArray := prog_7_method_10_code
def yX5_tollFor : MethodName := ⟨RX5, "tollFor", "(Z)I"⟩
abbrev cX5_opens : ByteArray := prog_7_method_11_code
def yX5_opens : MethodName := ⟨RX5, "opens", "(II)Z"⟩
def RX6 : String := "BeggarKings$Text"
def TX6 : u_T := fun k => match k with
  | 0 => ("BeggarKings$Text", "bytes", "[I", true)
  | 1 => ("BeggarKings$Text", "size", "I", false)
  | 2 => ("BeggarKings$Text", "end", "I", false)
  | 3 => ("BeggarKings$Text", "kind", "I", false)
  | 4 => ("BeggarKings$Text", "start", "I", false)
  | 5 => ("BeggarKings$Text", "next", "I", false)
  | 6 => ("BeggarKings$Text", "value", "I", false)
  | 7 => ("BeggarKings$Text", "errorCode", "I", false)
  | _ => ("BeggarKings$Text", "errorOffset", "I", false)
def tyX6 : Nat → FieldType := fun k => match k with
  | 0 => .array .int
  | 1 => .int
  | 2 => .int
  | 3 => .int
  | 4 => .int
  | 5 => .int
  | 6 => .int
  | 7 => .int
  | _ => .int
abbrev wsX60 : List Cond := u_ws RX6 TX6 9
theorem nmX6 : ∀ a, a < 9 → ∀ b, b < 9 → a ≠ b → (TX6 a).2.1 ≠ (TX6 b).2.1 := by decide +kernel
theorem tyX6_ok : ∀ k, k < 9 → parseFieldDescriptor (TX6 k).2.2.1 = some (tyX6 k) := by decide +kernel
abbrev cX6_init : ByteArray := prog_8_method_1_code
def yX6_init : MethodName := ⟨RX6, "<init>", "()V"⟩
abbrev cX6_appendWord : ByteArray := prog_8_method_2_code
def yX6_appendWord : MethodName := ⟨RX6, "appendWord", "(I)V"⟩
abbrev cX6_open : ByteArray := prog_8_method_3_code
def yX6_open : MethodName := ⟨RX6, "open", "(I)V"⟩
abbrev cX6_hasFailed : ByteArray := prog_8_method_4_code
def yX6_hasFailed : MethodName := ⟨RX6, "hasFailed", "()Z"⟩
abbrev cX6_fail : ByteArray := prog_8_method_5_code
def yX6_fail : MethodName := ⟨RX6, "fail", "(I)V"⟩
abbrev cX6_isAtEnd : ByteArray := prog_8_method_6_code
def yX6_isAtEnd : MethodName := ⟨RX6, "isAtEnd", "()Z"⟩
abbrev cX6_isAtWord : ByteArray := prog_8_method_7_code
def yX6_isAtWord : MethodName := ⟨RX6, "isAtWord", "(Ljava/lang/String;)Z"⟩
abbrev cX6_takeWord : ByteArray := prog_8_method_8_code
def yX6_takeWord : MethodName := ⟨RX6, "takeWord", "(Ljava/lang/String;)V"⟩
abbrev cX6_takeEither : ByteArray := prog_8_method_9_code
def yX6_takeEither : MethodName := ⟨RX6, "takeEither", "(Ljava/lang/String;Ljava/lang/String;)I"⟩
abbrev cX6_takeSemicolon : ByteArray := prog_8_method_10_code
def yX6_takeSemicolon : MethodName := ⟨RX6, "takeSemicolon", "()V"⟩
abbrev cX6_takeNumber : ByteArray := prog_8_method_11_code
def yX6_takeNumber : MethodName := ⟨RX6, "takeNumber", "(II)I"⟩
abbrev cX6_advance : ByteArray := prog_8_method_12_code
def yX6_advance : MethodName := ⟨RX6, "advance", "()V"⟩
abbrev cX6_scanWord : ByteArray := prog_8_method_13_code
def yX6_scanWord : MethodName := ⟨RX6, "scanWord", "()V"⟩
abbrev cX6_scanNumber : ByteArray := prog_8_method_14_code
def yX6_scanNumber : MethodName := ⟨RX6, "scanNumber", "()V"⟩
abbrev cX6_isBlank : ByteArray := prog_8_method_15_code
def yX6_isBlank : MethodName := ⟨RX6, "isBlank", "(I)Z"⟩
abbrev cX6_isLetter : ByteArray := prog_8_method_16_code
def yX6_isLetter : MethodName := ⟨RX6, "isLetter", "(I)Z"⟩
abbrev cX6_isDigit : ByteArray := prog_8_method_17_code
def yX6_isDigit : MethodName := ⟨RX6, "isDigit", "(I)Z"⟩
def RX7 : String := "BeggarKings$Verb"
def TX7 : u_T := fun k => match k with
  | _ => ("", "", "", false)
def tyX7 : Nat → FieldType := fun k => match k with
  | _ => .int
abbrev wsX70 : List Cond := u_ws RX7 TX7 0
theorem nmX7 : ∀ a, a < 0 → ∀ b, b < 0 → a ≠ b → (TX7 a).2.1 ≠ (TX7 b).2.1 := by decide +kernel
theorem tyX7_ok : ∀ k, k < 0 → parseFieldDescriptor (TX7 k).2.2.1 = some (tyX7 k) := by decide +kernel
abbrev cX7_allows : ByteArray := prog_9_method_7_code
def yX7_allows : MethodName := ⟨RX7, "allows", "(I)Z"⟩
def RX8 : String := "BeggarKings"
def TX8 : u_T := fun k => match k with
  | 0 => ("BeggarKings", "text", "LBeggarKings$Text;", true)
  | 1 => ("BeggarKings", "draft", "LBeggarKings$Setting;", true)
  | 2 => ("BeggarKings", "setting", "LBeggarKings$Setting;", true)
  | 3 => ("BeggarKings", "position", "LBeggarKings$Position;", true)
  | 4 => ("BeggarKings", "forecast", "LBeggarKings$Position;", true)
  | 5 => ("BeggarKings", "snapshot", "LBeggarKings$Position;", true)
  | 6 => ("BeggarKings", "history", "LBeggarKings$History;", true)
  | 7 => ("BeggarKings", "script", "LBeggarKings$Script;", true)
  | 8 => ("BeggarKings", "output", "[I", true)
  | 9 => ("BeggarKings", "outputSize", "I", false)
  | _ => ("BeggarKings", "hasSnapshot", "Z", false)
def tyX8 : Nat → FieldType := fun k => match k with
  | 0 => .object "BeggarKings$Text"
  | 1 => .object "BeggarKings$Setting"
  | 2 => .object "BeggarKings$Setting"
  | 3 => .object "BeggarKings$Position"
  | 4 => .object "BeggarKings$Position"
  | 5 => .object "BeggarKings$Position"
  | 6 => .object "BeggarKings$History"
  | 7 => .object "BeggarKings$Script"
  | 8 => .array .int
  | 9 => .int
  | _ => .boolean
abbrev wsX80 : List Cond := u_ws RX8 TX8 11
theorem nmX8 : ∀ a, a < 11 → ∀ b, b < 11 → a ≠ b → (TX8 a).2.1 ≠ (TX8 b).2.1 := by decide +kernel
theorem tyX8_ok : ∀ k, k < 11 → parseFieldDescriptor (TX8 k).2.2.1 = some (tyX8 k) := by decide +kernel
abbrev cX8_init : ByteArray := prog_1_method_1_code
def yX8_init : MethodName := ⟨RX8, "<init>", "()V"⟩
abbrev cX8_appendText : ByteArray := prog_1_method_2_code
def yX8_appendText : MethodName := ⟨RX8, "appendText", "(IIIII)I"⟩
abbrev cX8_loadGame : ByteArray := prog_1_method_3_code
def yX8_loadGame : MethodName := ⟨RX8, "loadGame", "(I)I"⟩
abbrev cX8_errorCode : ByteArray := prog_1_method_4_code
def yX8_errorCode : MethodName := ⟨RX8, "errorCode", "()I"⟩
abbrev cX8_errorOffset : ByteArray := prog_1_method_5_code
def yX8_errorOffset : MethodName := ⟨RX8, "errorOffset", "()I"⟩
abbrev cX8_turn : ByteArray := prog_1_method_6_code
def yX8_turn : MethodName := ⟨RX8, "turn", "()I"⟩
abbrev cX8_limitAngle : ByteArray := prog_1_method_7_code
def yX8_limitAngle : MethodName := ⟨RX8, "limitAngle", "()I"⟩
abbrev cX8_tollBox : ByteArray := prog_1_method_8_code
def yX8_tollBox : MethodName := ⟨RX8, "tollBox", "()I"⟩
abbrev cX8_groundCoins : ByteArray := prog_1_method_9_code
def yX8_groundCoins : MethodName := ⟨RX8, "groundCoins", "(Z)I"⟩
abbrev cX8_kingCount : ByteArray := prog_1_method_11_code
def yX8_kingCount : MethodName := ⟨RX8, "kingCount", "()I"⟩
abbrev cX8_bankCount : ByteArray := prog_1_method_12_code
def yX8_bankCount : MethodName := ⟨RX8, "bankCount", "(Z)I"⟩
abbrev cX8_isKing : ByteArray := prog_1_method_13_code
def yX8_isKing : MethodName := ⟨RX8, "isKing", "(I)Z"⟩
abbrev cX8_isEast : ByteArray := prog_1_method_14_code
def yX8_isEast : MethodName := ⟨RX8, "isEast", "(I)Z"⟩
abbrev cX8_coins : ByteArray := prog_1_method_15_code
def yX8_coins : MethodName := ⟨RX8, "coins", "(I)I"⟩
abbrev cX8_rags : ByteArray := prog_1_method_17_code
def yX8_rags : MethodName := ⟨RX8, "rags", "(I)I"⟩
abbrev cX8_wearer : ByteArray := prog_1_method_19_code
def yX8_wearer : MethodName := ⟨RX8, "wearer", "(I)I"⟩
abbrev cX8_crossings : ByteArray := prog_1_method_20_code
def yX8_crossings : MethodName := ⟨RX8, "crossings", "(I)I"⟩
abbrev cX8_royalHolder : ByteArray := prog_1_method_30_code
def yX8_royalHolder : MethodName := ⟨RX8, "royalHolder", "(I)I"⟩
abbrev cX8_isRoyalCoinEast : ByteArray := prog_1_method_31_code
def yX8_isRoyalCoinEast : MethodName := ⟨RX8, "isRoyalCoinEast", "(I)Z"⟩
abbrev cX8_isCounted : ByteArray := prog_1_method_32_code
def yX8_isCounted : MethodName := ⟨RX8, "isCounted", "(I)Z"⟩
abbrev cX8_royalCoins : ByteArray := prog_1_method_33_code
def yX8_royalCoins : MethodName := ⟨RX8, "royalCoins", "(I)I"⟩
abbrev cX8_countedRoyalCoins : ByteArray := prog_1_method_34_code
def yX8_countedRoyalCoins : MethodName := ⟨RX8, "countedRoyalCoins", "()I"⟩
abbrev cX8_queueLength : ByteArray := prog_1_method_36_code
def yX8_queueLength : MethodName := ⟨RX8, "queueLength", "(Z)I"⟩
abbrev cX8_queued : ByteArray := prog_1_method_37_code
def yX8_queued : MethodName := ⟨RX8, "queued", "(ZI)I"⟩
abbrev cX8_offer : ByteArray := prog_1_method_38_code
def yX8_offer : MethodName := ⟨RX8, "offer", "(I)I"⟩
abbrev cX8_coinGap : ByteArray := prog_1_method_47_code
def yX8_coinGap : MethodName := ⟨RX8, "coinGap", "()I"⟩
abbrev cX8_dropCoins : ByteArray := prog_1_method_48_code
def yX8_dropCoins : MethodName := ⟨RX8, "dropCoins", "(II)I"⟩
abbrev cX8_pickCoins : ByteArray := prog_1_method_49_code
def yX8_pickCoins : MethodName := ⟨RX8, "pickCoins", "(II)I"⟩
abbrev cX8_layRoyalCoin : ByteArray := prog_1_method_50_code
def yX8_layRoyalCoin : MethodName := ⟨RX8, "layRoyalCoin", "(II)I"⟩
abbrev cX8_liftRoyalCoin : ByteArray := prog_1_method_51_code
def yX8_liftRoyalCoin : MethodName := ⟨RX8, "liftRoyalCoin", "(II)I"⟩
abbrev cX8_swapRags : ByteArray := prog_1_method_52_code
def yX8_swapRags : MethodName := ⟨RX8, "swapRags", "(II)I"⟩
abbrev cX8_joinQueue : ByteArray := prog_1_method_53_code
def yX8_joinQueue : MethodName := ⟨RX8, "joinQueue", "(II)I"⟩
abbrev cX8_quitQueue : ByteArray := prog_1_method_54_code
def yX8_quitQueue : MethodName := ⟨RX8, "quitQueue", "(I)I"⟩
abbrev cX8_setPride : ByteArray := prog_1_method_55_code
def yX8_setPride : MethodName := ⟨RX8, "setPride", "(II)I"⟩
abbrev cX8_passTurns : ByteArray := prog_1_method_56_code
def yX8_passTurns : MethodName := ⟨RX8, "passTurns", "(I)I"⟩
abbrev cX8_requirePerson : ByteArray := prog_1_method_64_code
def yX8_requirePerson : MethodName := ⟨RX8, "requirePerson", "(I)V"⟩
abbrev cX8_requireKing : ByteArray := prog_1_method_65_code
def yX8_requireKing : MethodName := ⟨RX8, "requireKing", "(I)V"⟩
abbrev cX8_requireLength : ByteArray := prog_1_method_66_code
def yX8_requireLength : MethodName := ⟨RX8, "requireLength", "(I)V"⟩
abbrev cX8_allow : ByteArray := prog_1_method_68_code
def yX8_allow : MethodName := ⟨RX8, "allow", "(LBeggarKings$Verb;II)V"⟩
abbrev cX8_bankOf : ByteArray := prog_1_method_71_code
def yX8_bankOf : MethodName := ⟨RX8, "bankOf", "(Z)I"⟩
abbrev cX8_at : ByteArray := prog_1_method_72_code
def yX8_at : MethodName := ⟨RX8, "at", "([II)I"⟩
abbrev cX8_put : ByteArray := prog_1_method_73_code
def yX8_put : MethodName := ⟨RX8, "put", "([III)V"⟩
abbrev cX8_add : ByteArray := prog_1_method_74_code
def yX8_add : MethodName := ⟨RX8, "add", "([III)V"⟩
abbrev cX8_copyRow : ByteArray := prog_1_method_75_code
def yX8_copyRow : MethodName := ⟨RX8, "copyRow", "([I[I)V"⟩
abbrev cX8_readHeader : ByteArray := prog_1_method_76_code
def yX8_readHeader : MethodName := ⟨RX8, "readHeader", "(LBeggarKings$Text;LBeggarKings$Setting;)V"⟩
abbrev cX8_readPeople : ByteArray := prog_1_method_77_code
def yX8_readPeople : MethodName := ⟨RX8, "readPeople", "(LBeggarKings$Text;LBeggarKings$Setting;)V"⟩
abbrev cX8_isAtPerson : ByteArray := prog_1_method_78_code
def yX8_isAtPerson : MethodName := ⟨RX8, "isAtPerson", "(LBeggarKings$Text;)Z"⟩
abbrev cX8_readPerson : ByteArray := prog_1_method_79_code
def yX8_readPerson : MethodName := ⟨RX8, "readPerson", "(LBeggarKings$Text;LBeggarKings$Setting;)V"⟩
abbrev cX8_readBridges : ByteArray := prog_1_method_80_code
def yX8_readBridges : MethodName := ⟨RX8, "readBridges", "(LBeggarKings$Text;LBeggarKings$Setting;)V"⟩
abbrev cX8_readBridge : ByteArray := prog_1_method_81_code
def yX8_readBridge : MethodName := ⟨RX8, "readBridge", "(LBeggarKings$Text;LBeggarKings$Setting;)V"⟩
def RX9 : String := "BeggarKingsModel"
def TX9 : u_T := fun k => match k with
  | _ => ("", "", "", false)
def tyX9 : Nat → FieldType := fun k => match k with
  | _ => .int
abbrev wsX90 : List Cond := u_ws RX9 TX9 0
theorem nmX9 : ∀ a, a < 0 → ∀ b, b < 0 → a ≠ b → (TX9 a).2.1 ≠ (TX9 b).2.1 := by decide +kernel
theorem tyX9_ok : ∀ k, k < 0 → parseFieldDescriptor (TX9 k).2.2.1 = some (tyX9 k) := by decide +kernel
def RJx29ce0 : String := "java/lang/Enum"
def TJx29ce0 : u_T := fun k => match k with
  | _ => ("", "", "", false)
def tyJx29ce0 : Nat → FieldType := fun k => match k with
  | _ => .int
theorem nmJx29ce0 : ∀ a, a < 0 → ∀ b, b < 0 → a ≠ b → (TJx29ce0 a).2.1 ≠ (TJx29ce0 b).2.1 := by decide +kernel
theorem tyJx29ce0_ok : ∀ k, k < 0 → parseFieldDescriptor (TJx29ce0 k).2.2.1 = some (tyJx29ce0 k) := by decide +kernel
abbrev cJx29ce0_ordinal_8abf5 : ByteArray := prog_12_method_2_code
def yJx29ce0_ordinal_8abf5 : MethodName := ⟨RJx29ce0, "ordinal", "()I"⟩
def RJ9 : String := "java/lang/Math"
def TJ9 : u_T := fun k => match k with
  | _ => ("", "", "", false)
def tyJ9 : Nat → FieldType := fun k => match k with
  | _ => .int
theorem nmJ9 : ∀ a, a < 0 → ∀ b, b < 0 → a ≠ b → (TJ9 a).2.1 ≠ (TJ9 b).2.1 := by decide +kernel
theorem tyJ9_ok : ∀ k, k < 0 → parseFieldDescriptor (TJ9 k).2.2.1 = some (tyJ9 k) := by decide +kernel
abbrev cJ9_abs_0f7a4 : ByteArray := prog_17_method_59_code
def yJ9_abs_0f7a4 : MethodName := ⟨RJ9, "abs", "(I)I"⟩
abbrev cJ9_max_7cf53 : ByteArray := prog_17_method_65_code
def yJ9_max_7cf53 : MethodName := ⟨RJ9, "max", "(II)I"⟩
abbrev cJ9_min_7cf53 : ByteArray := prog_17_method_69_code
def yJ9_min_7cf53 : MethodName := ⟨RJ9, "min", "(II)I"⟩
def RJ0 : String := "java/lang/String"
def TJ0 : u_T := fun k => match k with
  | _ => ("", "", "", false)
def tyJ0 : Nat → FieldType := fun k => match k with
  | _ => .int
theorem nmJ0 : ∀ a, a < 0 → ∀ b, b < 0 → a ≠ b → (TJ0 a).2.1 ≠ (TJ0 b).2.1 := by decide +kernel
theorem tyJ0_ok : ∀ k, k < 0 → parseFieldDescriptor (TJ0 k).2.2.1 = some (tyJ0 k) := by decide +kernel
abbrev cJ0_length_8abf5 : ByteArray := prog_19_method_54_code
def yJ0_length_8abf5 : MethodName := ⟨RJ0, "length", "()I"⟩
abbrev cJ0_charAt_5068e : ByteArray := prog_19_method_56_code
def yJ0_charAt_5068e : MethodName := ⟨RJ0, "charAt", "(I)C"⟩
abbrev cJ0_coder_7d493 : ByteArray := prog_19_method_152_code
def yJ0_coder_7d493 : MethodName := ⟨RJ0, "coder", "()B"⟩
abbrev cJ0_isLatin1_aae02 : ByteArray := prog_19_method_154_code
def yJ0_isLatin1_aae02 : MethodName := ⟨RJ0, "isLatin1", "()Z"⟩
abbrev cJ0_checkIndex_df160 : ByteArray := prog_19_method_155_code
def yJ0_checkIndex_df160 : MethodName := ⟨RJ0, "checkIndex", "(II)V"⟩
def RJ1 : String := "java/lang/StringLatin1"
def TJ1 : u_T := fun k => match k with
  | _ => ("", "", "", false)
def tyJ1 : Nat → FieldType := fun k => match k with
  | _ => .int
theorem nmJ1 : ∀ a, a < 0 → ∀ b, b < 0 → a ≠ b → (TJ1 a).2.1 ≠ (TJ1 b).2.1 := by decide +kernel
theorem tyJ1_ok : ∀ k, k < 0 → parseFieldDescriptor (TJ1 k).2.2.1 = some (tyJ1 k) := by decide +kernel
abbrev cJ1_charAt_3b067 : ByteArray := prog_20_method_2_code
def yJ1_charAt_3b067 : MethodName := ⟨RJ1, "charAt", "([BI)C"⟩
def RJ2 : String := "java/lang/StringUTF16"
def TJ2 : u_T := fun k => match k with
  | _ => ("", "", "", false)
def tyJ2 : Nat → FieldType := fun k => match k with
  | _ => .int
theorem nmJ2 : ∀ a, a < 0 → ∀ b, b < 0 → a ≠ b → (TJ2 a).2.1 ≠ (TJ2 b).2.1 := by decide +kernel
theorem tyJ2_ok : ∀ k, k < 0 → parseFieldDescriptor (TJ2 k).2.2.1 = some (tyJ2 k) := by decide +kernel
abbrev cJ2_getChar_3b067 : ByteArray := prog_21_method_5_code
def yJ2_getChar_3b067 : MethodName := ⟨RJ2, "getChar", "([BI)C"⟩
abbrev cJ2_length_9d52b : ByteArray := prog_21_method_6_code
def yJ2_length_9d52b : MethodName := ⟨RJ2, "length", "([B)I"⟩
abbrev cJ2_charAt_3b067 : ByteArray := prog_21_method_83_code
def yJ2_charAt_3b067 : MethodName := ⟨RJ2, "charAt", "([BI)C"⟩
abbrev cJ2_checkIndex_2214a : ByteArray := prog_21_method_91_code
def yJ2_checkIndex_2214a : MethodName := ⟨RJ2, "checkIndex", "(I[B)V"⟩
def RJ10 : String := "java/lang/System"
def TJ10 : u_T := fun k => match k with
  | _ => ("", "", "", false)
def tyJ10 : Nat → FieldType := fun k => match k with
  | _ => .int
theorem nmJ10 : ∀ a, a < 0 → ∀ b, b < 0 → a ≠ b → (TJ10 a).2.1 ≠ (TJ10 b).2.1 := by decide +kernel
theorem tyJ10_ok : ∀ k, k < 0 → parseFieldDescriptor (TJ10 k).2.2.1 = some (tyJ10 k) := by decide +kernel
def RJ3 : String := "jdk/internal/util/Preconditions"
def TJ3 : u_T := fun k => match k with
  | _ => ("", "", "", false)
def tyJ3 : Nat → FieldType := fun k => match k with
  | _ => .int
theorem nmJ3 : ∀ a, a < 0 → ∀ b, b < 0 → a ≠ b → (TJ3 a).2.1 ≠ (TJ3 b).2.1 := by decide +kernel
theorem tyJ3_ok : ∀ k, k < 0 → parseFieldDescriptor (TJ3 k).2.2.1 = some (tyJ3 k) := by decide +kernel
abbrev cJ3_checkIndex_8e157 : ByteArray := prog_24_method_11_code
def yJ3_checkIndex_8e157 : MethodName := ⟨RJ3, "checkIndex", "(IILjava/util/function/BiFunction;)I"⟩
def RL : String := "BeggarKingsLaw"
def TL : u_T := fun k => match k with
  | 0 => ("BeggarKingsLaw", "text", "[I", true)
  | 1 => ("BeggarKingsLaw", "word", "[I", true)
  | 2 => ("BeggarKingsLaw", "size", "I", false)
  | 3 => ("BeggarKingsLaw", "many", "I", false)
  | _ => ("BeggarKingsLaw", "bridges", "I", false)
def tyL : Nat → FieldType := fun k => match k with
  | 0 => .array .int
  | 1 => .array .int
  | 2 => .int
  | 3 => .int
  | _ => .int
abbrev wsL0 : List Cond := u_ws RL TL 5
theorem nmL : ∀ a, a < 5 → ∀ b, b < 5 → a ≠ b → (TL a).2.1 ≠ (TL b).2.1 := by decide +kernel
theorem tyL_ok : ∀ k, k < 5 → parseFieldDescriptor (TL k).2.2.1 = some (tyL k) := by decide +kernel
abbrev cL_init : ByteArray := method_1_code
def yL_init : MethodName := ⟨RL, "<init>", "()V"⟩
abbrev cL_writes : ByteArray := method_2_code
def yL_writes : MethodName := ⟨RL, "writes", "(Ljava/lang/String;)V"⟩
abbrev cL_sign : ByteArray := method_3_code
def yL_sign : MethodName := ⟨RL, "sign", "(I)V"⟩
abbrev cL_number : ByteArray := method_4_code
def yL_number : MethodName := ⟨RL, "number", "(I)V"⟩
abbrev cL_cell : ByteArray := method_5_code
def yL_cell : MethodName := ⟨RL, "cell", "([II)I"⟩
abbrev cL_feeds : ByteArray := method_6_code
def yL_feeds : MethodName := ⟨RL, "feeds", "(LBeggarKings;)I"⟩
abbrev cL_loads : ByteArray := method_7_code
def yL_loads : MethodName := ⟨RL, "loads", "(LBeggarKings;[I)Z"⟩
abbrev cL_king : ByteArray := method_8_code
def yL_king : MethodName := ⟨RL, "king", "(LBeggarKings;I)I"⟩
abbrev cL_acts : ByteArray := method_9_code
def yL_acts : MethodName := ⟨RL, "acts", "(LBeggarKings;I)Z"⟩
abbrev cL_law : ByteArray := code
def yL_law : MethodName := ⟨RL, "law", "([I)Z"⟩
abbrev cL_coins : ByteArray := method_11_code
def yL_coins : MethodName := ⟨RL, "coins", "(LBeggarKings;)I"⟩
abbrev cL_crossed : ByteArray := method_12_code
def yL_crossed : MethodName := ⟨RL, "crossed", "(LBeggarKings;)I"⟩
abbrev cL_isWell : ByteArray := method_13_code
def yL_isWell : MethodName := ⟨RL, "isWell", "(LBeggarKings;)Z"⟩
abbrev cL_isOrdered : ByteArray := method_14_code
def yL_isOrdered : MethodName := ⟨RL, "isOrdered", "(LBeggarKings;Z)Z"⟩
abbrev vwCl : List vw_C := [(RX1, TX1, 3), (RX2, TX2, 15), (RX3, TX3, 3), (RX4, TX4, 4), (RX5, TX5, 14), (RX6, TX6, 9), (RX7, TX7, 0), (RX8, TX8, 11), (RL, TL, 5)]
end
section
theorem dX1_init_0 : decode cX1_init 0 = .ok (.aload_n 0, 1) := by decide +kernel
theorem dX1_init_1 : decode cX1_init 1 = .ok (.invokespecial 3, 3) := by decide +kernel
theorem dX1_init_4 : decode cX1_init 4 = .ok (.aload_n 0, 1) := by decide +kernel
theorem dX1_init_5 : decode cX1_init 5 = .ok (.bipush 8, 2) := by decide +kernel
theorem dX1_init_7 : decode cX1_init 7 = .ok (.anewarray 9, 3) := by decide +kernel
theorem dX1_init_10 : decode cX1_init 10 = .ok (.putfield 11, 3) := by decide +kernel
theorem dX1_init_13 : decode cX1_init 13 = .ok (.iconst 0, 1) := by decide +kernel
theorem dX1_init_14 : decode cX1_init 14 = .ok (.istore_n 2, 1) := by decide +kernel
theorem dX1_init_15 : decode cX1_init 15 = .ok (.iload_n 2, 1) := by decide +kernel
theorem dX1_init_16 : decode cX1_init 16 = .ok (.aload_n 0, 1) := by decide +kernel
theorem dX1_init_17 : decode cX1_init 17 = .ok (.getfield 11, 3) := by decide +kernel
theorem dX1_init_20 : decode cX1_init 20 = .ok (.arraylength, 1) := by decide +kernel
theorem dX1_init_21 : decode cX1_init 21 = .ok (.if_icmp .ge 23, 3) := by decide +kernel
theorem dX1_init_24 : decode cX1_init 24 = .ok (.aload_n 0, 1) := by decide +kernel
theorem dX1_init_25 : decode cX1_init 25 = .ok (.getfield 11, 3) := by decide +kernel
theorem dX1_init_28 : decode cX1_init 28 = .ok (.iload_n 2, 1) := by decide +kernel
theorem dX1_init_29 : decode cX1_init 29 = .ok (.new 9, 3) := by decide +kernel
theorem dX1_init_32 : decode cX1_init 32 = .ok (.dup, 1) := by decide +kernel
theorem dX1_init_33 : decode cX1_init 33 = .ok (.aload_n 1, 1) := by decide +kernel
theorem dX1_init_34 : decode cX1_init 34 = .ok (.invokespecial 17, 3) := by decide +kernel
theorem dX1_init_37 : decode cX1_init 37 = .ok (.aastore, 1) := by decide +kernel
theorem dX1_init_38 : decode cX1_init 38 = .ok (.iinc 2 1, 3) := by decide +kernel
theorem dX1_init_41 : decode cX1_init 41 = .ok (.goto (-26), 3) := by decide +kernel
theorem dX1_init_44 : decode cX1_init 44 = .ok (.return_, 1) := by decide +kernel
theorem dX1_clear_0 : decode cX1_clear 0 = .ok (.aload_n 0, 1) := by decide +kernel
theorem dX1_clear_1 : decode cX1_clear 1 = .ok (.iconst 0, 1) := by decide +kernel
theorem dX1_clear_2 : decode cX1_clear 2 = .ok (.putfield 20, 3) := by decide +kernel
theorem dX1_clear_5 : decode cX1_clear 5 = .ok (.return_, 1) := by decide +kernel
theorem dX1_push_0 : decode cX1_push 0 = .ok (.aload_n 0, 1) := by decide +kernel
theorem dX1_push_1 : decode cX1_push 1 = .ok (.getfield 24, 3) := by decide +kernel
theorem dX1_push_4 : decode cX1_push 4 = .ok (.ifCond .lt 15, 3) := by decide +kernel
theorem dX1_push_7 : decode cX1_push 7 = .ok (.aload_n 0, 1) := by decide +kernel
theorem dX1_push_8 : decode cX1_push 8 = .ok (.getfield 24, 3) := by decide +kernel
theorem dX1_push_11 : decode cX1_push 11 = .ok (.aload_n 0, 1) := by decide +kernel
theorem dX1_push_12 : decode cX1_push 12 = .ok (.getfield 11, 3) := by decide +kernel
theorem dX1_push_15 : decode cX1_push 15 = .ok (.arraylength, 1) := by decide +kernel
theorem dX1_push_16 : decode cX1_push 16 = .ok (.if_icmp .lt 4, 3) := by decide +kernel
theorem dX1_push_19 : decode cX1_push 19 = .ok (.return_, 1) := by decide +kernel
theorem dX1_push_20 : decode cX1_push 20 = .ok (.aload_n 0, 1) := by decide +kernel
theorem dX1_push_21 : decode cX1_push 21 = .ok (.getfield 11, 3) := by decide +kernel
theorem dX1_push_24 : decode cX1_push 24 = .ok (.aload_n 0, 1) := by decide +kernel
theorem dX1_push_25 : decode cX1_push 25 = .ok (.getfield 24, 3) := by decide +kernel
theorem dX1_push_28 : decode cX1_push 28 = .ok (.aaload, 1) := by decide +kernel
theorem dX1_push_29 : decode cX1_push 29 = .ok (.astore_n 2, 1) := by decide +kernel
theorem dX1_push_30 : decode cX1_push 30 = .ok (.aload_n 2, 1) := by decide +kernel
theorem dX1_push_31 : decode cX1_push 31 = .ok (.ifnull 48, 3) := by decide +kernel
theorem dX1_push_34 : decode cX1_push 34 = .ok (.aload_n 2, 1) := by decide +kernel
theorem dX1_push_35 : decode cX1_push 35 = .ok (.aload_n 1, 1) := by decide +kernel
theorem dX1_push_36 : decode cX1_push 36 = .ok (.invokevirtual 27, 3) := by decide +kernel
theorem dX1_push_39 : decode cX1_push 39 = .ok (.aload_n 0, 1) := by decide +kernel
theorem dX1_push_40 : decode cX1_push 40 = .ok (.aload_n 0, 1) := by decide +kernel
theorem dX1_push_41 : decode cX1_push 41 = .ok (.getfield 24, 3) := by decide +kernel
theorem dX1_push_44 : decode cX1_push 44 = .ok (.iconst 1, 1) := by decide +kernel
theorem dX1_push_45 : decode cX1_push 45 = .ok (.iadd, 1) := by decide +kernel
theorem dX1_push_46 : decode cX1_push 46 = .ok (.bipush 8, 2) := by decide +kernel
theorem dX1_push_48 : decode cX1_push 48 = .ok (.if_icmp .ge 12, 3) := by decide +kernel
theorem dX1_push_51 : decode cX1_push 51 = .ok (.aload_n 0, 1) := by decide +kernel
theorem dX1_push_52 : decode cX1_push 52 = .ok (.getfield 24, 3) := by decide +kernel
theorem dX1_push_55 : decode cX1_push 55 = .ok (.iconst 1, 1) := by decide +kernel
theorem dX1_push_56 : decode cX1_push 56 = .ok (.iadd, 1) := by decide +kernel
theorem dX1_push_57 : decode cX1_push 57 = .ok (.goto 4, 3) := by decide +kernel
theorem dX1_push_60 : decode cX1_push 60 = .ok (.iconst 0, 1) := by decide +kernel
theorem dX1_push_61 : decode cX1_push 61 = .ok (.putfield 24, 3) := by decide +kernel
theorem dX1_push_64 : decode cX1_push 64 = .ok (.aload_n 0, 1) := by decide +kernel
theorem dX1_push_65 : decode cX1_push 65 = .ok (.bipush 8, 2) := by decide +kernel
theorem dX1_push_67 : decode cX1_push 67 = .ok (.aload_n 0, 1) := by decide +kernel
theorem dX1_push_68 : decode cX1_push 68 = .ok (.getfield 20, 3) := by decide +kernel
theorem dX1_push_71 : decode cX1_push 71 = .ok (.iconst 1, 1) := by decide +kernel
theorem dX1_push_72 : decode cX1_push 72 = .ok (.iadd, 1) := by decide +kernel
theorem dX1_push_73 : decode cX1_push 73 = .ok (.invokestatic 31, 3) := by decide +kernel
theorem dX1_push_76 : decode cX1_push 76 = .ok (.putfield 20, 3) := by decide +kernel
theorem dX1_push_79 : decode cX1_push 79 = .ok (.return_, 1) := by decide +kernel
theorem dX2_init_0 : decode cX2_init 0 = .ok (.aload_n 0, 1) := by decide +kernel
theorem dX2_init_1 : decode cX2_init 1 = .ok (.invokespecial 3, 3) := by decide +kernel
theorem dX2_init_4 : decode cX2_init 4 = .ok (.aload_n 0, 1) := by decide +kernel
theorem dX2_init_5 : decode cX2_init 5 = .ok (.iconst 2, 1) := by decide +kernel
theorem dX2_init_6 : decode cX2_init 6 = .ok (.newarray .int, 2) := by decide +kernel
theorem dX2_init_8 : decode cX2_init 8 = .ok (.putfield 9, 3) := by decide +kernel
theorem dX2_init_11 : decode cX2_init 11 = .ok (.aload_n 0, 1) := by decide +kernel
theorem dX2_init_12 : decode cX2_init 12 = .ok (.bipush 10, 2) := by decide +kernel
theorem dX2_init_14 : decode cX2_init 14 = .ok (.newarray .int, 2) := by decide +kernel
theorem dX2_init_16 : decode cX2_init 16 = .ok (.putfield 15, 3) := by decide +kernel
theorem dX2_init_19 : decode cX2_init 19 = .ok (.aload_n 0, 1) := by decide +kernel
theorem dX2_init_20 : decode cX2_init 20 = .ok (.bipush 10, 2) := by decide +kernel
theorem dX2_init_22 : decode cX2_init 22 = .ok (.newarray .int, 2) := by decide +kernel
theorem dX2_init_24 : decode cX2_init 24 = .ok (.putfield 18, 3) := by decide +kernel
theorem dX2_init_27 : decode cX2_init 27 = .ok (.aload_n 0, 1) := by decide +kernel
theorem dX2_init_28 : decode cX2_init 28 = .ok (.bipush 10, 2) := by decide +kernel
theorem dX2_init_30 : decode cX2_init 30 = .ok (.newarray .int, 2) := by decide +kernel
theorem dX2_init_32 : decode cX2_init 32 = .ok (.putfield 21, 3) := by decide +kernel
theorem dX2_init_35 : decode cX2_init 35 = .ok (.aload_n 0, 1) := by decide +kernel
theorem dX2_init_36 : decode cX2_init 36 = .ok (.bipush 10, 2) := by decide +kernel
theorem dX2_init_38 : decode cX2_init 38 = .ok (.newarray .int, 2) := by decide +kernel
theorem dX2_init_40 : decode cX2_init 40 = .ok (.putfield 24, 3) := by decide +kernel
theorem dX2_init_43 : decode cX2_init 43 = .ok (.aload_n 0, 1) := by decide +kernel
theorem dX2_init_44 : decode cX2_init 44 = .ok (.bipush 10, 2) := by decide +kernel
theorem dX2_init_46 : decode cX2_init 46 = .ok (.newarray .int, 2) := by decide +kernel
theorem dX2_init_48 : decode cX2_init 48 = .ok (.putfield 27, 3) := by decide +kernel
theorem dX2_init_51 : decode cX2_init 51 = .ok (.aload_n 0, 1) := by decide +kernel
theorem dX2_init_52 : decode cX2_init 52 = .ok (.bipush 10, 2) := by decide +kernel
theorem dX2_init_54 : decode cX2_init 54 = .ok (.newarray .int, 2) := by decide +kernel
theorem dX2_init_56 : decode cX2_init 56 = .ok (.putfield 30, 3) := by decide +kernel
theorem dX2_init_59 : decode cX2_init 59 = .ok (.aload_n 0, 1) := by decide +kernel
theorem dX2_init_60 : decode cX2_init 60 = .ok (.bipush 10, 2) := by decide +kernel
theorem dX2_init_62 : decode cX2_init 62 = .ok (.newarray .int, 2) := by decide +kernel
theorem dX2_init_64 : decode cX2_init 64 = .ok (.putfield 33, 3) := by decide +kernel
theorem dX2_init_67 : decode cX2_init 67 = .ok (.aload_n 0, 1) := by decide +kernel
theorem dX2_init_68 : decode cX2_init 68 = .ok (.bipush 10, 2) := by decide +kernel
theorem dX2_init_70 : decode cX2_init 70 = .ok (.newarray .int, 2) := by decide +kernel
theorem dX2_init_72 : decode cX2_init 72 = .ok (.putfield 36, 3) := by decide +kernel
theorem dX2_init_75 : decode cX2_init 75 = .ok (.aload_n 0, 1) := by decide +kernel
theorem dX2_init_76 : decode cX2_init 76 = .ok (.new 39, 3) := by decide +kernel
theorem dX2_init_79 : decode cX2_init 79 = .ok (.dup, 1) := by decide +kernel
theorem dX2_init_80 : decode cX2_init 80 = .ok (.invokespecial 41, 3) := by decide +kernel
theorem dX2_init_83 : decode cX2_init 83 = .ok (.putfield 42, 3) := by decide +kernel
theorem dX2_init_86 : decode cX2_init 86 = .ok (.aload_n 0, 1) := by decide +kernel
theorem dX2_init_87 : decode cX2_init 87 = .ok (.new 39, 3) := by decide +kernel
theorem dX2_init_90 : decode cX2_init 90 = .ok (.dup, 1) := by decide +kernel
theorem dX2_init_91 : decode cX2_init 91 = .ok (.invokespecial 41, 3) := by decide +kernel
theorem dX2_init_94 : decode cX2_init 94 = .ok (.putfield 46, 3) := by decide +kernel
theorem dX2_init_97 : decode cX2_init 97 = .ok (.aload_n 0, 1) := by decide +kernel
theorem dX2_init_98 : decode cX2_init 98 = .ok (.aload_n 1, 1) := by decide +kernel
theorem dX2_init_99 : decode cX2_init 99 = .ok (.putfield 49, 3) := by decide +kernel
theorem dX2_init_102 : decode cX2_init 102 = .ok (.return_, 1) := by decide +kernel
theorem dX2_begin_0 : decode cX2_begin 0 = .ok (.aload_n 0, 1) := by decide +kernel
theorem dX2_begin_1 : decode cX2_begin 1 = .ok (.iconst 0, 1) := by decide +kernel
theorem dX2_begin_2 : decode cX2_begin 2 = .ok (.putfield 53, 3) := by decide +kernel
theorem dX2_begin_5 : decode cX2_begin 5 = .ok (.aload_n 0, 1) := by decide +kernel
theorem dX2_begin_6 : decode cX2_begin 6 = .ok (.aload_n 0, 1) := by decide +kernel
theorem dX2_begin_7 : decode cX2_begin 7 = .ok (.getfield 49, 3) := by decide +kernel
theorem dX2_begin_10 : decode cX2_begin 10 = .ok (.getfield 57, 3) := by decide +kernel
theorem dX2_begin_13 : decode cX2_begin 13 = .ok (.putfield 62, 3) := by decide +kernel
theorem dX2_begin_16 : decode cX2_begin 16 = .ok (.aload_n 0, 1) := by decide +kernel
theorem dX2_begin_17 : decode cX2_begin 17 = .ok (.iconst 0, 1) := by decide +kernel
theorem dX2_begin_18 : decode cX2_begin 18 = .ok (.putfield 63, 3) := by decide +kernel
theorem dX2_begin_21 : decode cX2_begin 21 = .ok (.aload_n 0, 1) := by decide +kernel
theorem dX2_begin_22 : decode cX2_begin 22 = .ok (.getfield 9, 3) := by decide +kernel
theorem dX2_begin_25 : decode cX2_begin 25 = .ok (.iconst 0, 1) := by decide +kernel
theorem dX2_begin_26 : decode cX2_begin 26 = .ok (.iconst 0, 1) := by decide +kernel
theorem dX2_begin_27 : decode cX2_begin 27 = .ok (.invokestatic 66, 3) := by decide +kernel
theorem dX2_begin_30 : decode cX2_begin 30 = .ok (.aload_n 0, 1) := by decide +kernel
theorem dX2_begin_31 : decode cX2_begin 31 = .ok (.getfield 9, 3) := by decide +kernel
theorem dX2_begin_34 : decode cX2_begin 34 = .ok (.iconst 1, 1) := by decide +kernel
theorem dX2_begin_35 : decode cX2_begin 35 = .ok (.iconst 0, 1) := by decide +kernel
theorem dX2_begin_36 : decode cX2_begin 36 = .ok (.invokestatic 66, 3) := by decide +kernel
theorem dX2_begin_39 : decode cX2_begin 39 = .ok (.aload_n 0, 1) := by decide +kernel
theorem dX2_begin_40 : decode cX2_begin 40 = .ok (.getfield 42, 3) := by decide +kernel
theorem dX2_begin_43 : decode cX2_begin 43 = .ok (.iconst 0, 1) := by decide +kernel
theorem dX2_begin_44 : decode cX2_begin 44 = .ok (.putfield 70, 3) := by decide +kernel
theorem dX2_begin_47 : decode cX2_begin 47 = .ok (.aload_n 0, 1) := by decide +kernel
theorem dX2_begin_48 : decode cX2_begin 48 = .ok (.getfield 46, 3) := by decide +kernel
theorem dX2_begin_51 : decode cX2_begin 51 = .ok (.iconst 0, 1) := by decide +kernel
theorem dX2_begin_52 : decode cX2_begin 52 = .ok (.putfield 70, 3) := by decide +kernel
theorem dX2_begin_55 : decode cX2_begin 55 = .ok (.aload_n 0, 1) := by decide +kernel
theorem dX2_begin_56 : decode cX2_begin 56 = .ok (.getfield 49, 3) := by decide +kernel
theorem dX2_begin_59 : decode cX2_begin 59 = .ok (.getfield 73, 3) := by decide +kernel
theorem dX2_begin_62 : decode cX2_begin 62 = .ok (.aload_n 0, 1) := by decide +kernel
theorem dX2_begin_63 : decode cX2_begin 63 = .ok (.getfield 15, 3) := by decide +kernel
theorem dX2_begin_66 : decode cX2_begin 66 = .ok (.invokestatic 74, 3) := by decide +kernel
theorem dX2_begin_69 : decode cX2_begin 69 = .ok (.aload_n 0, 1) := by decide +kernel
theorem dX2_begin_70 : decode cX2_begin 70 = .ok (.getfield 49, 3) := by decide +kernel
theorem dX2_begin_73 : decode cX2_begin 73 = .ok (.getfield 78, 3) := by decide +kernel
theorem dX2_begin_76 : decode cX2_begin 76 = .ok (.aload_n 0, 1) := by decide +kernel
theorem dX2_begin_77 : decode cX2_begin 77 = .ok (.getfield 18, 3) := by decide +kernel
theorem dX2_begin_80 : decode cX2_begin 80 = .ok (.invokestatic 74, 3) := by decide +kernel
theorem dX2_begin_83 : decode cX2_begin 83 = .ok (.aload_n 0, 1) := by decide +kernel
theorem dX2_begin_84 : decode cX2_begin 84 = .ok (.getfield 49, 3) := by decide +kernel
theorem dX2_begin_87 : decode cX2_begin 87 = .ok (.getfield 79, 3) := by decide +kernel
theorem dX2_begin_90 : decode cX2_begin 90 = .ok (.aload_n 0, 1) := by decide +kernel
theorem dX2_begin_91 : decode cX2_begin 91 = .ok (.getfield 21, 3) := by decide +kernel
theorem dX2_begin_94 : decode cX2_begin 94 = .ok (.invokestatic 74, 3) := by decide +kernel
theorem dX2_begin_97 : decode cX2_begin 97 = .ok (.aload_n 0, 1) := by decide +kernel
theorem dX2_begin_98 : decode cX2_begin 98 = .ok (.getfield 49, 3) := by decide +kernel
theorem dX2_begin_101 : decode cX2_begin 101 = .ok (.getfield 73, 3) := by decide +kernel
theorem dX2_begin_104 : decode cX2_begin 104 = .ok (.aload_n 0, 1) := by decide +kernel
theorem dX2_begin_105 : decode cX2_begin 105 = .ok (.getfield 33, 3) := by decide +kernel
theorem dX2_begin_108 : decode cX2_begin 108 = .ok (.invokestatic 74, 3) := by decide +kernel
theorem dX2_begin_111 : decode cX2_begin 111 = .ok (.iconst 0, 1) := by decide +kernel
theorem dX2_begin_112 : decode cX2_begin 112 = .ok (.istore_n 1, 1) := by decide +kernel
theorem dX2_begin_113 : decode cX2_begin 113 = .ok (.iload_n 1, 1) := by decide +kernel
theorem dX2_begin_114 : decode cX2_begin 114 = .ok (.bipush 10, 2) := by decide +kernel
theorem dX2_begin_116 : decode cX2_begin 116 = .ok (.if_icmp .ge 60, 3) := by decide +kernel
theorem dX2_begin_119 : decode cX2_begin 119 = .ok (.aload_n 0, 1) := by decide +kernel
theorem dX2_begin_120 : decode cX2_begin 120 = .ok (.getfield 24, 3) := by decide +kernel
theorem dX2_begin_123 : decode cX2_begin 123 = .ok (.iload_n 1, 1) := by decide +kernel
theorem dX2_begin_124 : decode cX2_begin 124 = .ok (.iload_n 1, 1) := by decide +kernel
theorem dX2_begin_125 : decode cX2_begin 125 = .ok (.invokestatic 66, 3) := by decide +kernel
theorem dX2_begin_128 : decode cX2_begin 128 = .ok (.aload_n 0, 1) := by decide +kernel
theorem dX2_begin_129 : decode cX2_begin 129 = .ok (.getfield 27, 3) := by decide +kernel
theorem dX2_begin_132 : decode cX2_begin 132 = .ok (.iload_n 1, 1) := by decide +kernel
theorem dX2_begin_133 : decode cX2_begin 133 = .ok (.iconst 0, 1) := by decide +kernel
theorem dX2_begin_134 : decode cX2_begin 134 = .ok (.invokestatic 66, 3) := by decide +kernel
theorem dX2_begin_137 : decode cX2_begin 137 = .ok (.aload_n 0, 1) := by decide +kernel
theorem dX2_begin_138 : decode cX2_begin 138 = .ok (.getfield 30, 3) := by decide +kernel
theorem dX2_begin_141 : decode cX2_begin 141 = .ok (.iload_n 1, 1) := by decide +kernel
theorem dX2_begin_142 : decode cX2_begin 142 = .ok (.aload_n 0, 1) := by decide +kernel
theorem dX2_begin_143 : decode cX2_begin 143 = .ok (.getfield 49, 3) := by decide +kernel
theorem dX2_begin_146 : decode cX2_begin 146 = .ok (.iload_n 1, 1) := by decide +kernel
theorem dX2_begin_147 : decode cX2_begin 147 = .ok (.invokevirtual 80, 3) := by decide +kernel
theorem dX2_begin_150 : decode cX2_begin 150 = .ok (.ifCond .eq 7, 3) := by decide +kernel
theorem dX2_begin_153 : decode cX2_begin 153 = .ok (.iload_n 1, 1) := by decide +kernel
theorem dX2_begin_154 : decode cX2_begin 154 = .ok (.goto 4, 3) := by decide +kernel
theorem dX2_begin_157 : decode cX2_begin 157 = .ok (.iconst (-1), 1) := by decide +kernel
theorem dX2_begin_158 : decode cX2_begin 158 = .ok (.invokestatic 66, 3) := by decide +kernel
theorem dX2_begin_161 : decode cX2_begin 161 = .ok (.aload_n 0, 1) := by decide +kernel
theorem dX2_begin_162 : decode cX2_begin 162 = .ok (.getfield 36, 3) := by decide +kernel
theorem dX2_begin_165 : decode cX2_begin 165 = .ok (.iload_n 1, 1) := by decide +kernel
theorem dX2_begin_166 : decode cX2_begin 166 = .ok (.iconst 0, 1) := by decide +kernel
theorem dX2_begin_167 : decode cX2_begin 167 = .ok (.invokestatic 66, 3) := by decide +kernel
theorem dX2_begin_170 : decode cX2_begin 170 = .ok (.iinc 1 1, 3) := by decide +kernel
theorem dX2_begin_173 : decode cX2_begin 173 = .ok (.goto (-60), 3) := by decide +kernel
theorem dX2_begin_176 : decode cX2_begin 176 = .ok (.return_, 1) := by decide +kernel
theorem dX2_copyFrom_0 : decode cX2_copyFrom 0 = .ok (.aload_n 0, 1) := by decide +kernel
theorem dX2_copyFrom_1 : decode cX2_copyFrom 1 = .ok (.aload_n 1, 1) := by decide +kernel
theorem dX2_copyFrom_2 : decode cX2_copyFrom 2 = .ok (.getfield 53, 3) := by decide +kernel
theorem dX2_copyFrom_5 : decode cX2_copyFrom 5 = .ok (.putfield 53, 3) := by decide +kernel
theorem dX2_copyFrom_8 : decode cX2_copyFrom 8 = .ok (.aload_n 0, 1) := by decide +kernel
theorem dX2_copyFrom_9 : decode cX2_copyFrom 9 = .ok (.aload_n 1, 1) := by decide +kernel
theorem dX2_copyFrom_10 : decode cX2_copyFrom 10 = .ok (.getfield 62, 3) := by decide +kernel
theorem dX2_copyFrom_13 : decode cX2_copyFrom 13 = .ok (.putfield 62, 3) := by decide +kernel
theorem dX2_copyFrom_16 : decode cX2_copyFrom 16 = .ok (.aload_n 0, 1) := by decide +kernel
theorem dX2_copyFrom_17 : decode cX2_copyFrom 17 = .ok (.aload_n 1, 1) := by decide +kernel
theorem dX2_copyFrom_18 : decode cX2_copyFrom 18 = .ok (.getfield 63, 3) := by decide +kernel
theorem dX2_copyFrom_21 : decode cX2_copyFrom 21 = .ok (.putfield 63, 3) := by decide +kernel
theorem dX2_copyFrom_24 : decode cX2_copyFrom 24 = .ok (.aload_n 1, 1) := by decide +kernel
theorem dX2_copyFrom_25 : decode cX2_copyFrom 25 = .ok (.getfield 9, 3) := by decide +kernel
theorem dX2_copyFrom_28 : decode cX2_copyFrom 28 = .ok (.aload_n 0, 1) := by decide +kernel
theorem dX2_copyFrom_29 : decode cX2_copyFrom 29 = .ok (.getfield 9, 3) := by decide +kernel
theorem dX2_copyFrom_32 : decode cX2_copyFrom 32 = .ok (.invokestatic 74, 3) := by decide +kernel
theorem dX2_copyFrom_35 : decode cX2_copyFrom 35 = .ok (.aload_n 1, 1) := by decide +kernel
theorem dX2_copyFrom_36 : decode cX2_copyFrom 36 = .ok (.getfield 15, 3) := by decide +kernel
theorem dX2_copyFrom_39 : decode cX2_copyFrom 39 = .ok (.aload_n 0, 1) := by decide +kernel
theorem dX2_copyFrom_40 : decode cX2_copyFrom 40 = .ok (.getfield 15, 3) := by decide +kernel
theorem dX2_copyFrom_43 : decode cX2_copyFrom 43 = .ok (.invokestatic 74, 3) := by decide +kernel
theorem dX2_copyFrom_46 : decode cX2_copyFrom 46 = .ok (.aload_n 1, 1) := by decide +kernel
theorem dX2_copyFrom_47 : decode cX2_copyFrom 47 = .ok (.getfield 18, 3) := by decide +kernel
theorem dX2_copyFrom_50 : decode cX2_copyFrom 50 = .ok (.aload_n 0, 1) := by decide +kernel
theorem dX2_copyFrom_51 : decode cX2_copyFrom 51 = .ok (.getfield 18, 3) := by decide +kernel
theorem dX2_copyFrom_54 : decode cX2_copyFrom 54 = .ok (.invokestatic 74, 3) := by decide +kernel
theorem dX2_copyFrom_57 : decode cX2_copyFrom 57 = .ok (.aload_n 1, 1) := by decide +kernel
theorem dX2_copyFrom_58 : decode cX2_copyFrom 58 = .ok (.getfield 21, 3) := by decide +kernel
theorem dX2_copyFrom_61 : decode cX2_copyFrom 61 = .ok (.aload_n 0, 1) := by decide +kernel
theorem dX2_copyFrom_62 : decode cX2_copyFrom 62 = .ok (.getfield 21, 3) := by decide +kernel
theorem dX2_copyFrom_65 : decode cX2_copyFrom 65 = .ok (.invokestatic 74, 3) := by decide +kernel
theorem dX2_copyFrom_68 : decode cX2_copyFrom 68 = .ok (.aload_n 1, 1) := by decide +kernel
theorem dX2_copyFrom_69 : decode cX2_copyFrom 69 = .ok (.getfield 24, 3) := by decide +kernel
theorem dX2_copyFrom_72 : decode cX2_copyFrom 72 = .ok (.aload_n 0, 1) := by decide +kernel
theorem dX2_copyFrom_73 : decode cX2_copyFrom 73 = .ok (.getfield 24, 3) := by decide +kernel
theorem dX2_copyFrom_76 : decode cX2_copyFrom 76 = .ok (.invokestatic 74, 3) := by decide +kernel
theorem dX2_copyFrom_79 : decode cX2_copyFrom 79 = .ok (.aload_n 1, 1) := by decide +kernel
theorem dX2_copyFrom_80 : decode cX2_copyFrom 80 = .ok (.getfield 27, 3) := by decide +kernel
theorem dX2_copyFrom_83 : decode cX2_copyFrom 83 = .ok (.aload_n 0, 1) := by decide +kernel
theorem dX2_copyFrom_84 : decode cX2_copyFrom 84 = .ok (.getfield 27, 3) := by decide +kernel
theorem dX2_copyFrom_87 : decode cX2_copyFrom 87 = .ok (.invokestatic 74, 3) := by decide +kernel
theorem dX2_copyFrom_90 : decode cX2_copyFrom 90 = .ok (.aload_n 1, 1) := by decide +kernel
theorem dX2_copyFrom_91 : decode cX2_copyFrom 91 = .ok (.getfield 30, 3) := by decide +kernel
theorem dX2_copyFrom_94 : decode cX2_copyFrom 94 = .ok (.aload_n 0, 1) := by decide +kernel
theorem dX2_copyFrom_95 : decode cX2_copyFrom 95 = .ok (.getfield 30, 3) := by decide +kernel
theorem dX2_copyFrom_98 : decode cX2_copyFrom 98 = .ok (.invokestatic 74, 3) := by decide +kernel
theorem dX2_copyFrom_101 : decode cX2_copyFrom 101 = .ok (.aload_n 1, 1) := by decide +kernel
theorem dX2_copyFrom_102 : decode cX2_copyFrom 102 = .ok (.getfield 33, 3) := by decide +kernel
theorem dX2_copyFrom_105 : decode cX2_copyFrom 105 = .ok (.aload_n 0, 1) := by decide +kernel
theorem dX2_copyFrom_106 : decode cX2_copyFrom 106 = .ok (.getfield 33, 3) := by decide +kernel
theorem dX2_copyFrom_109 : decode cX2_copyFrom 109 = .ok (.invokestatic 74, 3) := by decide +kernel
theorem dX2_copyFrom_112 : decode cX2_copyFrom 112 = .ok (.aload_n 1, 1) := by decide +kernel
theorem dX2_copyFrom_113 : decode cX2_copyFrom 113 = .ok (.getfield 36, 3) := by decide +kernel
theorem dX2_copyFrom_116 : decode cX2_copyFrom 116 = .ok (.aload_n 0, 1) := by decide +kernel
theorem dX2_copyFrom_117 : decode cX2_copyFrom 117 = .ok (.getfield 36, 3) := by decide +kernel
theorem dX2_copyFrom_120 : decode cX2_copyFrom 120 = .ok (.invokestatic 74, 3) := by decide +kernel
theorem dX2_copyFrom_123 : decode cX2_copyFrom 123 = .ok (.aload_n 0, 1) := by decide +kernel
theorem dX2_copyFrom_124 : decode cX2_copyFrom 124 = .ok (.getfield 42, 3) := by decide +kernel
theorem dX2_copyFrom_127 : decode cX2_copyFrom 127 = .ok (.aload_n 1, 1) := by decide +kernel
theorem dX2_copyFrom_128 : decode cX2_copyFrom 128 = .ok (.getfield 42, 3) := by decide +kernel
theorem dX2_copyFrom_131 : decode cX2_copyFrom 131 = .ok (.invokevirtual 84, 3) := by decide +kernel
theorem dX2_copyFrom_134 : decode cX2_copyFrom 134 = .ok (.aload_n 0, 1) := by decide +kernel
theorem dX2_copyFrom_135 : decode cX2_copyFrom 135 = .ok (.getfield 46, 3) := by decide +kernel
theorem dX2_copyFrom_138 : decode cX2_copyFrom 138 = .ok (.aload_n 1, 1) := by decide +kernel
theorem dX2_copyFrom_139 : decode cX2_copyFrom 139 = .ok (.getfield 46, 3) := by decide +kernel
theorem dX2_copyFrom_142 : decode cX2_copyFrom 142 = .ok (.invokevirtual 84, 3) := by decide +kernel
theorem dX2_copyFrom_145 : decode cX2_copyFrom 145 = .ok (.return_, 1) := by decide +kernel
theorem dX2_peopleOn_0 : decode cX2_peopleOn 0 = .ok (.iconst 0, 1) := by decide +kernel
theorem dX2_peopleOn_1 : decode cX2_peopleOn 1 = .ok (.istore_n 2, 1) := by decide +kernel
theorem dX2_peopleOn_2 : decode cX2_peopleOn 2 = .ok (.iconst 0, 1) := by decide +kernel
theorem dX2_peopleOn_3 : decode cX2_peopleOn 3 = .ok (.istore_n 3, 1) := by decide +kernel
theorem dX2_peopleOn_4 : decode cX2_peopleOn 4 = .ok (.iload_n 3, 1) := by decide +kernel
theorem dX2_peopleOn_5 : decode cX2_peopleOn 5 = .ok (.aload_n 0, 1) := by decide +kernel
theorem dX2_peopleOn_6 : decode cX2_peopleOn 6 = .ok (.getfield 49, 3) := by decide +kernel
theorem dX2_peopleOn_9 : decode cX2_peopleOn 9 = .ok (.getfield 88, 3) := by decide +kernel
theorem dX2_peopleOn_12 : decode cX2_peopleOn 12 = .ok (.if_icmp .ge 24, 3) := by decide +kernel
theorem dX2_peopleOn_15 : decode cX2_peopleOn 15 = .ok (.aload_n 0, 1) := by decide +kernel
theorem dX2_peopleOn_16 : decode cX2_peopleOn 16 = .ok (.getfield 15, 3) := by decide +kernel
theorem dX2_peopleOn_19 : decode cX2_peopleOn 19 = .ok (.iload_n 3, 1) := by decide +kernel
theorem dX2_peopleOn_20 : decode cX2_peopleOn 20 = .ok (.invokestatic 91, 3) := by decide +kernel
theorem dX2_peopleOn_23 : decode cX2_peopleOn 23 = .ok (.iload_n 1, 1) := by decide +kernel
theorem dX2_peopleOn_24 : decode cX2_peopleOn 24 = .ok (.if_icmp .ne 6, 3) := by decide +kernel
theorem dX2_peopleOn_27 : decode cX2_peopleOn 27 = .ok (.iinc 2 1, 3) := by decide +kernel
theorem dX2_peopleOn_30 : decode cX2_peopleOn 30 = .ok (.iinc 3 1, 3) := by decide +kernel
theorem dX2_peopleOn_33 : decode cX2_peopleOn 33 = .ok (.goto (-29), 3) := by decide +kernel
theorem dX2_peopleOn_36 : decode cX2_peopleOn 36 = .ok (.iload_n 2, 1) := by decide +kernel
theorem dX2_peopleOn_37 : decode cX2_peopleOn 37 = .ok (.ireturn, 1) := by decide +kernel
theorem dX2_wearerOf_0 : decode cX2_wearerOf 0 = .ok (.iconst 0, 1) := by decide +kernel
theorem dX2_wearerOf_1 : decode cX2_wearerOf 1 = .ok (.istore_n 2, 1) := by decide +kernel
theorem dX2_wearerOf_2 : decode cX2_wearerOf 2 = .ok (.iload_n 2, 1) := by decide +kernel
theorem dX2_wearerOf_3 : decode cX2_wearerOf 3 = .ok (.aload_n 0, 1) := by decide +kernel
theorem dX2_wearerOf_4 : decode cX2_wearerOf 4 = .ok (.getfield 49, 3) := by decide +kernel
theorem dX2_wearerOf_7 : decode cX2_wearerOf 7 = .ok (.getfield 88, 3) := by decide +kernel
theorem dX2_wearerOf_10 : decode cX2_wearerOf 10 = .ok (.if_icmp .ge 23, 3) := by decide +kernel
theorem dX2_wearerOf_13 : decode cX2_wearerOf 13 = .ok (.aload_n 0, 1) := by decide +kernel
theorem dX2_wearerOf_14 : decode cX2_wearerOf 14 = .ok (.getfield 24, 3) := by decide +kernel
theorem dX2_wearerOf_17 : decode cX2_wearerOf 17 = .ok (.iload_n 2, 1) := by decide +kernel
theorem dX2_wearerOf_18 : decode cX2_wearerOf 18 = .ok (.invokestatic 91, 3) := by decide +kernel
theorem dX2_wearerOf_21 : decode cX2_wearerOf 21 = .ok (.iload_n 1, 1) := by decide +kernel
theorem dX2_wearerOf_22 : decode cX2_wearerOf 22 = .ok (.if_icmp .ne 5, 3) := by decide +kernel
theorem dX2_wearerOf_25 : decode cX2_wearerOf 25 = .ok (.iload_n 2, 1) := by decide +kernel
theorem dX2_wearerOf_26 : decode cX2_wearerOf 26 = .ok (.ireturn, 1) := by decide +kernel
theorem dX2_wearerOf_27 : decode cX2_wearerOf 27 = .ok (.iinc 2 1, 3) := by decide +kernel
theorem dX2_wearerOf_30 : decode cX2_wearerOf 30 = .ok (.goto (-28), 3) := by decide +kernel
theorem dX2_wearerOf_33 : decode cX2_wearerOf 33 = .ok (.iconst (-1), 1) := by decide +kernel
theorem dX2_wearerOf_34 : decode cX2_wearerOf 34 = .ok (.ireturn, 1) := by decide +kernel
theorem dX2_coinsInAll_0 : decode cX2_coinsInAll 0 = .ok (.aload_n 0, 1) := by decide +kernel
theorem dX2_coinsInAll_1 : decode cX2_coinsInAll 1 = .ok (.getfield 63, 3) := by decide +kernel
theorem dX2_coinsInAll_4 : decode cX2_coinsInAll 4 = .ok (.aload_n 0, 1) := by decide +kernel
theorem dX2_coinsInAll_5 : decode cX2_coinsInAll 5 = .ok (.getfield 9, 3) := by decide +kernel
theorem dX2_coinsInAll_8 : decode cX2_coinsInAll 8 = .ok (.iconst 0, 1) := by decide +kernel
theorem dX2_coinsInAll_9 : decode cX2_coinsInAll 9 = .ok (.invokestatic 91, 3) := by decide +kernel
theorem dX2_coinsInAll_12 : decode cX2_coinsInAll 12 = .ok (.iadd, 1) := by decide +kernel
theorem dX2_coinsInAll_13 : decode cX2_coinsInAll 13 = .ok (.aload_n 0, 1) := by decide +kernel
theorem dX2_coinsInAll_14 : decode cX2_coinsInAll 14 = .ok (.getfield 9, 3) := by decide +kernel
theorem dX2_coinsInAll_17 : decode cX2_coinsInAll 17 = .ok (.iconst 1, 1) := by decide +kernel
theorem dX2_coinsInAll_18 : decode cX2_coinsInAll 18 = .ok (.invokestatic 91, 3) := by decide +kernel
theorem dX2_coinsInAll_21 : decode cX2_coinsInAll 21 = .ok (.iadd, 1) := by decide +kernel
theorem dX2_coinsInAll_22 : decode cX2_coinsInAll 22 = .ok (.istore_n 1, 1) := by decide +kernel
theorem dX2_coinsInAll_23 : decode cX2_coinsInAll 23 = .ok (.iconst 0, 1) := by decide +kernel
theorem dX2_coinsInAll_24 : decode cX2_coinsInAll 24 = .ok (.istore_n 2, 1) := by decide +kernel
theorem dX2_coinsInAll_25 : decode cX2_coinsInAll 25 = .ok (.iload_n 2, 1) := by decide +kernel
theorem dX2_coinsInAll_26 : decode cX2_coinsInAll 26 = .ok (.aload_n 0, 1) := by decide +kernel
theorem dX2_coinsInAll_27 : decode cX2_coinsInAll 27 = .ok (.getfield 49, 3) := by decide +kernel
theorem dX2_coinsInAll_30 : decode cX2_coinsInAll 30 = .ok (.getfield 88, 3) := by decide +kernel
theorem dX2_coinsInAll_33 : decode cX2_coinsInAll 33 = .ok (.if_icmp .ge 20, 3) := by decide +kernel
theorem dX2_coinsInAll_36 : decode cX2_coinsInAll 36 = .ok (.iload_n 1, 1) := by decide +kernel
theorem dX2_coinsInAll_37 : decode cX2_coinsInAll 37 = .ok (.aload_n 0, 1) := by decide +kernel
theorem dX2_coinsInAll_38 : decode cX2_coinsInAll 38 = .ok (.getfield 18, 3) := by decide +kernel
theorem dX2_coinsInAll_41 : decode cX2_coinsInAll 41 = .ok (.iload_n 2, 1) := by decide +kernel
theorem dX2_coinsInAll_42 : decode cX2_coinsInAll 42 = .ok (.invokestatic 91, 3) := by decide +kernel
theorem dX2_coinsInAll_45 : decode cX2_coinsInAll 45 = .ok (.iadd, 1) := by decide +kernel
theorem dX2_coinsInAll_46 : decode cX2_coinsInAll 46 = .ok (.istore_n 1, 1) := by decide +kernel
theorem dX2_coinsInAll_47 : decode cX2_coinsInAll 47 = .ok (.iinc 2 1, 3) := by decide +kernel
theorem dX2_coinsInAll_50 : decode cX2_coinsInAll 50 = .ok (.goto (-25), 3) := by decide +kernel
theorem dX2_coinsInAll_53 : decode cX2_coinsInAll 53 = .ok (.iload_n 1, 1) := by decide +kernel
theorem dX2_coinsInAll_54 : decode cX2_coinsInAll 54 = .ok (.ireturn, 1) := by decide +kernel
theorem dX2_royalCoinBank_0 : decode cX2_royalCoinBank 0 = .ok (.aload_n 0, 1) := by decide +kernel
theorem dX2_royalCoinBank_1 : decode cX2_royalCoinBank 1 = .ok (.getfield 30, 3) := by decide +kernel
theorem dX2_royalCoinBank_4 : decode cX2_royalCoinBank 4 = .ok (.iload_n 1, 1) := by decide +kernel
theorem dX2_royalCoinBank_5 : decode cX2_royalCoinBank 5 = .ok (.invokestatic 91, 3) := by decide +kernel
theorem dX2_royalCoinBank_8 : decode cX2_royalCoinBank 8 = .ok (.istore_n 2, 1) := by decide +kernel
theorem dX2_royalCoinBank_9 : decode cX2_royalCoinBank 9 = .ok (.iload_n 2, 1) := by decide +kernel
theorem dX2_royalCoinBank_10 : decode cX2_royalCoinBank 10 = .ok (.iconst (-1), 1) := by decide +kernel
theorem dX2_royalCoinBank_11 : decode cX2_royalCoinBank 11 = .ok (.if_icmp .ne 14, 3) := by decide +kernel
theorem dX2_royalCoinBank_14 : decode cX2_royalCoinBank 14 = .ok (.aload_n 0, 1) := by decide +kernel
theorem dX2_royalCoinBank_15 : decode cX2_royalCoinBank 15 = .ok (.getfield 33, 3) := by decide +kernel
theorem dX2_royalCoinBank_18 : decode cX2_royalCoinBank 18 = .ok (.iload_n 1, 1) := by decide +kernel
theorem dX2_royalCoinBank_19 : decode cX2_royalCoinBank 19 = .ok (.invokestatic 91, 3) := by decide +kernel
theorem dX2_royalCoinBank_22 : decode cX2_royalCoinBank 22 = .ok (.goto 11, 3) := by decide +kernel
theorem dX2_royalCoinBank_25 : decode cX2_royalCoinBank 25 = .ok (.aload_n 0, 1) := by decide +kernel
theorem dX2_royalCoinBank_26 : decode cX2_royalCoinBank 26 = .ok (.getfield 15, 3) := by decide +kernel
theorem dX2_royalCoinBank_29 : decode cX2_royalCoinBank 29 = .ok (.iload_n 2, 1) := by decide +kernel
theorem dX2_royalCoinBank_30 : decode cX2_royalCoinBank 30 = .ok (.invokestatic 91, 3) := by decide +kernel
theorem dX2_royalCoinBank_33 : decode cX2_royalCoinBank 33 = .ok (.ireturn, 1) := by decide +kernel
theorem dX2_royalCoinsOf_0 : decode cX2_royalCoinsOf 0 = .ok (.iconst 0, 1) := by decide +kernel
theorem dX2_royalCoinsOf_1 : decode cX2_royalCoinsOf 1 = .ok (.istore_n 2, 1) := by decide +kernel
theorem dX2_royalCoinsOf_2 : decode cX2_royalCoinsOf 2 = .ok (.iconst 0, 1) := by decide +kernel
theorem dX2_royalCoinsOf_3 : decode cX2_royalCoinsOf 3 = .ok (.istore_n 3, 1) := by decide +kernel
theorem dX2_royalCoinsOf_4 : decode cX2_royalCoinsOf 4 = .ok (.iload_n 3, 1) := by decide +kernel
theorem dX2_royalCoinsOf_5 : decode cX2_royalCoinsOf 5 = .ok (.aload_n 0, 1) := by decide +kernel
theorem dX2_royalCoinsOf_6 : decode cX2_royalCoinsOf 6 = .ok (.getfield 49, 3) := by decide +kernel
theorem dX2_royalCoinsOf_9 : decode cX2_royalCoinsOf 9 = .ok (.getfield 88, 3) := by decide +kernel
theorem dX2_royalCoinsOf_12 : decode cX2_royalCoinsOf 12 = .ok (.if_icmp .ge 24, 3) := by decide +kernel
theorem dX2_royalCoinsOf_15 : decode cX2_royalCoinsOf 15 = .ok (.aload_n 0, 1) := by decide +kernel
theorem dX2_royalCoinsOf_16 : decode cX2_royalCoinsOf 16 = .ok (.getfield 30, 3) := by decide +kernel
theorem dX2_royalCoinsOf_19 : decode cX2_royalCoinsOf 19 = .ok (.iload_n 3, 1) := by decide +kernel
theorem dX2_royalCoinsOf_20 : decode cX2_royalCoinsOf 20 = .ok (.invokestatic 91, 3) := by decide +kernel
theorem dX2_royalCoinsOf_23 : decode cX2_royalCoinsOf 23 = .ok (.iload_n 1, 1) := by decide +kernel
theorem dX2_royalCoinsOf_24 : decode cX2_royalCoinsOf 24 = .ok (.if_icmp .ne 6, 3) := by decide +kernel
theorem dX2_royalCoinsOf_27 : decode cX2_royalCoinsOf 27 = .ok (.iinc 2 1, 3) := by decide +kernel
theorem dX2_royalCoinsOf_30 : decode cX2_royalCoinsOf 30 = .ok (.iinc 3 1, 3) := by decide +kernel
theorem dX2_royalCoinsOf_33 : decode cX2_royalCoinsOf 33 = .ok (.goto (-29), 3) := by decide +kernel
theorem dX2_royalCoinsOf_36 : decode cX2_royalCoinsOf 36 = .ok (.iload_n 2, 1) := by decide +kernel
theorem dX2_royalCoinsOf_37 : decode cX2_royalCoinsOf 37 = .ok (.ireturn, 1) := by decide +kernel
theorem dX2_countedInAll_0 : decode cX2_countedInAll 0 = .ok (.iconst 0, 1) := by decide +kernel
theorem dX2_countedInAll_1 : decode cX2_countedInAll 1 = .ok (.istore_n 1, 1) := by decide +kernel
theorem dX2_countedInAll_2 : decode cX2_countedInAll 2 = .ok (.iconst 0, 1) := by decide +kernel
theorem dX2_countedInAll_3 : decode cX2_countedInAll 3 = .ok (.istore_n 2, 1) := by decide +kernel
theorem dX2_countedInAll_4 : decode cX2_countedInAll 4 = .ok (.iload_n 2, 1) := by decide +kernel
theorem dX2_countedInAll_5 : decode cX2_countedInAll 5 = .ok (.aload_n 0, 1) := by decide +kernel
theorem dX2_countedInAll_6 : decode cX2_countedInAll 6 = .ok (.getfield 49, 3) := by decide +kernel
theorem dX2_countedInAll_9 : decode cX2_countedInAll 9 = .ok (.getfield 88, 3) := by decide +kernel
theorem dX2_countedInAll_12 : decode cX2_countedInAll 12 = .ok (.if_icmp .ge 20, 3) := by decide +kernel
theorem dX2_countedInAll_15 : decode cX2_countedInAll 15 = .ok (.iload_n 1, 1) := by decide +kernel
theorem dX2_countedInAll_16 : decode cX2_countedInAll 16 = .ok (.aload_n 0, 1) := by decide +kernel
theorem dX2_countedInAll_17 : decode cX2_countedInAll 17 = .ok (.getfield 36, 3) := by decide +kernel
theorem dX2_countedInAll_20 : decode cX2_countedInAll 20 = .ok (.iload_n 2, 1) := by decide +kernel
theorem dX2_countedInAll_21 : decode cX2_countedInAll 21 = .ok (.invokestatic 91, 3) := by decide +kernel
theorem dX2_countedInAll_24 : decode cX2_countedInAll 24 = .ok (.iadd, 1) := by decide +kernel
theorem dX2_countedInAll_25 : decode cX2_countedInAll 25 = .ok (.istore_n 1, 1) := by decide +kernel
theorem dX2_countedInAll_26 : decode cX2_countedInAll 26 = .ok (.iinc 2 1, 3) := by decide +kernel
theorem dX2_countedInAll_29 : decode cX2_countedInAll 29 = .ok (.goto (-25), 3) := by decide +kernel
theorem dX2_countedInAll_32 : decode cX2_countedInAll 32 = .ok (.iload_n 1, 1) := by decide +kernel
theorem dX2_countedInAll_33 : decode cX2_countedInAll 33 = .ok (.ireturn, 1) := by decide +kernel
theorem dX2_keeperAngleIn_0 : decode cX2_keeperAngleIn 0 = .ok (.bipush 80, 2) := by decide +kernel
theorem dX2_keeperAngleIn_2 : decode cX2_keeperAngleIn 2 = .ok (.aload_n 0, 1) := by decide +kernel
theorem dX2_keeperAngleIn_3 : decode cX2_keeperAngleIn 3 = .ok (.getfield 49, 3) := by decide +kernel
theorem dX2_keeperAngleIn_6 : decode cX2_keeperAngleIn 6 = .ok (.getfield 95, 3) := by decide +kernel
theorem dX2_keeperAngleIn_9 : decode cX2_keeperAngleIn 9 = .ok (.iload_n 2, 1) := by decide +kernel
theorem dX2_keeperAngleIn_10 : decode cX2_keeperAngleIn 10 = .ok (.invokestatic 91, 3) := by decide +kernel
theorem dX2_keeperAngleIn_13 : decode cX2_keeperAngleIn 13 = .ok (.isub, 1) := by decide +kernel
theorem dX2_keeperAngleIn_14 : decode cX2_keeperAngleIn 14 = .ok (.aload_n 0, 1) := by decide +kernel
theorem dX2_keeperAngleIn_15 : decode cX2_keeperAngleIn 15 = .ok (.getfield 21, 3) := by decide +kernel
theorem dX2_keeperAngleIn_18 : decode cX2_keeperAngleIn 18 = .ok (.iload_n 1, 1) := by decide +kernel
theorem dX2_keeperAngleIn_19 : decode cX2_keeperAngleIn 19 = .ok (.invokestatic 91, 3) := by decide +kernel
theorem dX2_keeperAngleIn_22 : decode cX2_keeperAngleIn 22 = .ok (.isub, 1) := by decide +kernel
theorem dX2_keeperAngleIn_23 : decode cX2_keeperAngleIn 23 = .ok (.aload_n 0, 1) := by decide +kernel
theorem dX2_keeperAngleIn_24 : decode cX2_keeperAngleIn 24 = .ok (.getfield 49, 3) := by decide +kernel
theorem dX2_keeperAngleIn_27 : decode cX2_keeperAngleIn 27 = .ok (.getfield 98, 3) := by decide +kernel
theorem dX2_keeperAngleIn_30 : decode cX2_keeperAngleIn 30 = .ok (.iload_n 1, 1) := by decide +kernel
theorem dX2_keeperAngleIn_31 : decode cX2_keeperAngleIn 31 = .ok (.invokestatic 91, 3) := by decide +kernel
theorem dX2_keeperAngleIn_34 : decode cX2_keeperAngleIn 34 = .ok (.invokestatic 101, 3) := by decide +kernel
theorem dX2_keeperAngleIn_37 : decode cX2_keeperAngleIn 37 = .ok (.ireturn, 1) := by decide +kernel
theorem dX2_angleOf_0 : decode cX2_angleOf 0 = .ok (.iload_n 0, 1) := by decide +kernel
theorem dX2_angleOf_1 : decode cX2_angleOf 1 = .ok (.ifCond .ge 7, 3) := by decide +kernel
theorem dX2_angleOf_4 : decode cX2_angleOf 4 = .ok (.iconst 0, 1) := by decide +kernel
theorem dX2_angleOf_5 : decode cX2_angleOf 5 = .ok (.goto 15, 3) := by decide +kernel
theorem dX2_angleOf_8 : decode cX2_angleOf 8 = .ok (.iload_n 0, 1) := by decide +kernel
theorem dX2_angleOf_9 : decode cX2_angleOf 9 = .ok (.bipush 90, 2) := by decide +kernel
theorem dX2_angleOf_11 : decode cX2_angleOf 11 = .ok (.if_icmp .le 8, 3) := by decide +kernel
theorem dX2_angleOf_14 : decode cX2_angleOf 14 = .ok (.bipush 90, 2) := by decide +kernel
theorem dX2_angleOf_16 : decode cX2_angleOf 16 = .ok (.goto 4, 3) := by decide +kernel
theorem dX2_angleOf_19 : decode cX2_angleOf 19 = .ok (.iload_n 0, 1) := by decide +kernel
theorem dX2_angleOf_20 : decode cX2_angleOf 20 = .ok (.istore_n 2, 1) := by decide +kernel
theorem dX2_angleOf_21 : decode cX2_angleOf 21 = .ok (.iload_n 1, 1) := by decide +kernel
theorem dX2_angleOf_22 : decode cX2_angleOf 22 = .ok (.iconst 1, 1) := by decide +kernel
theorem dX2_angleOf_23 : decode cX2_angleOf 23 = .ok (.if_icmp .ne 9, 3) := by decide +kernel
theorem dX2_angleOf_26 : decode cX2_angleOf 26 = .ok (.iload_n 2, 1) := by decide +kernel
theorem dX2_angleOf_27 : decode cX2_angleOf 27 = .ok (.iconst 2, 1) := by decide +kernel
theorem dX2_angleOf_28 : decode cX2_angleOf 28 = .ok (.idiv, 1) := by decide +kernel
theorem dX2_angleOf_29 : decode cX2_angleOf 29 = .ok (.goto 4, 3) := by decide +kernel
theorem dX2_angleOf_32 : decode cX2_angleOf 32 = .ok (.iload_n 2, 1) := by decide +kernel
theorem dX2_angleOf_33 : decode cX2_angleOf 33 = .ok (.ireturn, 1) := by decide +kernel
theorem dX2_queueOn_0 : decode cX2_queueOn 0 = .ok (.iload_n 1, 1) := by decide +kernel
theorem dX2_queueOn_1 : decode cX2_queueOn 1 = .ok (.iconst 1, 1) := by decide +kernel
theorem dX2_queueOn_2 : decode cX2_queueOn 2 = .ok (.if_icmp .ne 10, 3) := by decide +kernel
theorem dX2_queueOn_5 : decode cX2_queueOn 5 = .ok (.aload_n 0, 1) := by decide +kernel
theorem dX2_queueOn_6 : decode cX2_queueOn 6 = .ok (.getfield 46, 3) := by decide +kernel
theorem dX2_queueOn_9 : decode cX2_queueOn 9 = .ok (.goto 7, 3) := by decide +kernel
theorem dX2_queueOn_12 : decode cX2_queueOn 12 = .ok (.aload_n 0, 1) := by decide +kernel
theorem dX2_queueOn_13 : decode cX2_queueOn 13 = .ok (.getfield 42, 3) := by decide +kernel
theorem dX2_queueOn_16 : decode cX2_queueOn 16 = .ok (.areturn, 1) := by decide +kernel
theorem dX2_offerOf_0 : decode cX2_offerOf 0 = .ok (.aload_n 0, 1) := by decide +kernel
theorem dX2_offerOf_1 : decode cX2_offerOf 1 = .ok (.aload_n 0, 1) := by decide +kernel
theorem dX2_offerOf_2 : decode cX2_offerOf 2 = .ok (.getfield 15, 3) := by decide +kernel
theorem dX2_offerOf_5 : decode cX2_offerOf 5 = .ok (.iload_n 1, 1) := by decide +kernel
theorem dX2_offerOf_6 : decode cX2_offerOf 6 = .ok (.invokestatic 91, 3) := by decide +kernel
theorem dX2_offerOf_9 : decode cX2_offerOf 9 = .ok (.invokevirtual 122, 3) := by decide +kernel
theorem dX2_offerOf_12 : decode cX2_offerOf 12 = .ok (.astore_n 2, 1) := by decide +kernel
theorem dX2_offerOf_13 : decode cX2_offerOf 13 = .ok (.aload_n 2, 1) := by decide +kernel
theorem dX2_offerOf_14 : decode cX2_offerOf 14 = .ok (.aload_n 2, 1) := by decide +kernel
theorem dX2_offerOf_15 : decode cX2_offerOf 15 = .ok (.iload_n 1, 1) := by decide +kernel
theorem dX2_offerOf_16 : decode cX2_offerOf 16 = .ok (.invokevirtual 126, 3) := by decide +kernel
theorem dX2_offerOf_19 : decode cX2_offerOf 19 = .ok (.invokevirtual 129, 3) := by decide +kernel
theorem dX2_offerOf_22 : decode cX2_offerOf 22 = .ok (.ireturn, 1) := by decide +kernel
theorem dX2_departureBank_0 : decode cX2_departureBank 0 = .ok (.aload_n 0, 1) := by decide +kernel
theorem dX2_departureBank_1 : decode cX2_departureBank 1 = .ok (.getfield 53, 3) := by decide +kernel
theorem dX2_departureBank_4 : decode cX2_departureBank 4 = .ok (.iconst 2, 1) := by decide +kernel
theorem dX2_departureBank_5 : decode cX2_departureBank 5 = .ok (.irem, 1) := by decide +kernel
theorem dX2_departureBank_6 : decode cX2_departureBank 6 = .ok (.ifCond .ne 7, 3) := by decide +kernel
theorem dX2_departureBank_9 : decode cX2_departureBank 9 = .ok (.iconst 0, 1) := by decide +kernel
theorem dX2_departureBank_10 : decode cX2_departureBank 10 = .ok (.goto 4, 3) := by decide +kernel
theorem dX2_departureBank_13 : decode cX2_departureBank 13 = .ok (.iconst 1, 1) := by decide +kernel
theorem dX2_departureBank_14 : decode cX2_departureBank 14 = .ok (.ireturn, 1) := by decide +kernel
theorem dX2_passSeveral_0 : decode cX2_passSeveral 0 = .ok (.iconst 0, 1) := by decide +kernel
theorem dX2_passSeveral_1 : decode cX2_passSeveral 1 = .ok (.istore_n 2, 1) := by decide +kernel
theorem dX2_passSeveral_2 : decode cX2_passSeveral 2 = .ok (.iconst 0, 1) := by decide +kernel
theorem dX2_passSeveral_3 : decode cX2_passSeveral 3 = .ok (.istore_n 3, 1) := by decide +kernel
theorem dX2_passSeveral_4 : decode cX2_passSeveral 4 = .ok (.iload_n 3, 1) := by decide +kernel
theorem dX2_passSeveral_5 : decode cX2_passSeveral 5 = .ok (.iload_n 1, 1) := by decide +kernel
theorem dX2_passSeveral_6 : decode cX2_passSeveral 6 = .ok (.if_icmp .ge 16, 3) := by decide +kernel
theorem dX2_passSeveral_9 : decode cX2_passSeveral 9 = .ok (.iload_n 2, 1) := by decide +kernel
theorem dX2_passSeveral_10 : decode cX2_passSeveral 10 = .ok (.aload_n 0, 1) := by decide +kernel
theorem dX2_passSeveral_11 : decode cX2_passSeveral 11 = .ok (.invokevirtual 132, 3) := by decide +kernel
theorem dX2_passSeveral_14 : decode cX2_passSeveral 14 = .ok (.iadd, 1) := by decide +kernel
theorem dX2_passSeveral_15 : decode cX2_passSeveral 15 = .ok (.istore_n 2, 1) := by decide +kernel
theorem dX2_passSeveral_16 : decode cX2_passSeveral 16 = .ok (.iinc 3 1, 3) := by decide +kernel
theorem dX2_passSeveral_19 : decode cX2_passSeveral 19 = .ok (.goto (-15), 3) := by decide +kernel
theorem dX2_passSeveral_22 : decode cX2_passSeveral 22 = .ok (.iload_n 2, 1) := by decide +kernel
theorem dX2_passSeveral_23 : decode cX2_passSeveral 23 = .ok (.ireturn, 1) := by decide +kernel
theorem dX2_passTurn_0 : decode cX2_passTurn 0 = .ok (.aload_n 0, 1) := by decide +kernel
theorem dX2_passTurn_1 : decode cX2_passTurn 1 = .ok (.getfield 53, 3) := by decide +kernel
theorem dX2_passTurn_4 : decode cX2_passTurn 4 = .ok (.sipush 9999, 3) := by decide +kernel
theorem dX2_passTurn_7 : decode cX2_passTurn 7 = .ok (.if_icmp .le 5, 3) := by decide +kernel
theorem dX2_passTurn_10 : decode cX2_passTurn 10 = .ok (.iconst 0, 1) := by decide +kernel
theorem dX2_passTurn_11 : decode cX2_passTurn 11 = .ok (.ireturn, 1) := by decide +kernel
theorem dX2_passTurn_12 : decode cX2_passTurn 12 = .ok (.aload_n 0, 1) := by decide +kernel
theorem dX2_passTurn_13 : decode cX2_passTurn 13 = .ok (.aload_n 0, 1) := by decide +kernel
theorem dX2_passTurn_14 : decode cX2_passTurn 14 = .ok (.invokevirtual 136, 3) := by decide +kernel
theorem dX2_passTurn_17 : decode cX2_passTurn 17 = .ok (.invokevirtual 122, 3) := by decide +kernel
theorem dX2_passTurn_20 : decode cX2_passTurn 20 = .ok (.astore_n 1, 1) := by decide +kernel
theorem dX2_passTurn_21 : decode cX2_passTurn 21 = .ok (.iconst 0, 1) := by decide +kernel
theorem dX2_passTurn_22 : decode cX2_passTurn 22 = .ok (.istore_n 2, 1) := by decide +kernel
theorem dX2_passTurn_23 : decode cX2_passTurn 23 = .ok (.iconst 0, 1) := by decide +kernel
theorem dX2_passTurn_24 : decode cX2_passTurn 24 = .ok (.istore_n 3, 1) := by decide +kernel
theorem dX2_passTurn_25 : decode cX2_passTurn 25 = .ok (.iload_n 3, 1) := by decide +kernel
theorem dX2_passTurn_26 : decode cX2_passTurn 26 = .ok (.aload_n 0, 1) := by decide +kernel
theorem dX2_passTurn_27 : decode cX2_passTurn 27 = .ok (.getfield 49, 3) := by decide +kernel
theorem dX2_passTurn_30 : decode cX2_passTurn 30 = .ok (.getfield 139, 3) := by decide +kernel
theorem dX2_passTurn_33 : decode cX2_passTurn 33 = .ok (.if_icmp .ge 88, 3) := by decide +kernel
theorem dX2_passTurn_36 : decode cX2_passTurn 36 = .ok (.aload_n 0, 1) := by decide +kernel
theorem dX2_passTurn_37 : decode cX2_passTurn 37 = .ok (.getfield 49, 3) := by decide +kernel
theorem dX2_passTurn_40 : decode cX2_passTurn 40 = .ok (.iload_n 3, 1) := by decide +kernel
theorem dX2_passTurn_41 : decode cX2_passTurn 41 = .ok (.aload_n 0, 1) := by decide +kernel
theorem dX2_passTurn_42 : decode cX2_passTurn 42 = .ok (.getfield 53, 3) := by decide +kernel
theorem dX2_passTurn_45 : decode cX2_passTurn 45 = .ok (.invokevirtual 142, 3) := by decide +kernel
theorem dX2_passTurn_48 : decode cX2_passTurn 48 = .ok (.ifCond .eq 17, 3) := by decide +kernel
theorem dX2_passTurn_51 : decode cX2_passTurn 51 = .ok (.aload_n 0, 1) := by decide +kernel
theorem dX2_passTurn_52 : decode cX2_passTurn 52 = .ok (.getfield 49, 3) := by decide +kernel
theorem dX2_passTurn_55 : decode cX2_passTurn 55 = .ok (.getfield 146, 3) := by decide +kernel
theorem dX2_passTurn_58 : decode cX2_passTurn 58 = .ok (.iload_n 3, 1) := by decide +kernel
theorem dX2_passTurn_59 : decode cX2_passTurn 59 = .ok (.invokestatic 91, 3) := by decide +kernel
theorem dX2_passTurn_62 : decode cX2_passTurn 62 = .ok (.goto 4, 3) := by decide +kernel
theorem dX2_passTurn_65 : decode cX2_passTurn 65 = .ok (.iconst 0, 1) := by decide +kernel
theorem dX2_passTurn_66 : decode cX2_passTurn 66 = .ok (.istore 4, 2) := by decide +kernel
theorem dX2_passTurn_68 : decode cX2_passTurn 68 = .ok (.iconst 0, 1) := by decide +kernel
theorem dX2_passTurn_69 : decode cX2_passTurn 69 = .ok (.istore 5, 2) := by decide +kernel
theorem dX2_passTurn_71 : decode cX2_passTurn 71 = .ok (.iload 5, 2) := by decide +kernel
theorem dX2_passTurn_73 : decode cX2_passTurn 73 = .ok (.bipush 10, 2) := by decide +kernel
theorem dX2_passTurn_75 : decode cX2_passTurn 75 = .ok (.if_icmp .ge 40, 3) := by decide +kernel
theorem dX2_passTurn_78 : decode cX2_passTurn 78 = .ok (.iload 4, 2) := by decide +kernel
theorem dX2_passTurn_80 : decode cX2_passTurn 80 = .ok (.ifCond .le 35, 3) := by decide +kernel
theorem dX2_passTurn_83 : decode cX2_passTurn 83 = .ok (.aload_n 1, 1) := by decide +kernel
theorem dX2_passTurn_84 : decode cX2_passTurn 84 = .ok (.getfield 70, 3) := by decide +kernel
theorem dX2_passTurn_87 : decode cX2_passTurn 87 = .ok (.ifCond .le 28, 3) := by decide +kernel
theorem dX2_passTurn_90 : decode cX2_passTurn 90 = .ok (.aload_n 0, 1) := by decide +kernel
theorem dX2_passTurn_91 : decode cX2_passTurn 91 = .ok (.aload_n 1, 1) := by decide +kernel
theorem dX2_passTurn_92 : decode cX2_passTurn 92 = .ok (.invokevirtual 149, 3) := by decide +kernel
theorem dX2_passTurn_95 : decode cX2_passTurn 95 = .ok (.istore 6, 2) := by decide +kernel
theorem dX2_passTurn_97 : decode cX2_passTurn 97 = .ok (.iload 4, 2) := by decide +kernel
theorem dX2_passTurn_99 : decode cX2_passTurn 99 = .ok (.iload 6, 2) := by decide +kernel
theorem dX2_passTurn_101 : decode cX2_passTurn 101 = .ok (.isub, 1) := by decide +kernel
theorem dX2_passTurn_102 : decode cX2_passTurn 102 = .ok (.istore 4, 2) := by decide +kernel
theorem dX2_passTurn_104 : decode cX2_passTurn 104 = .ok (.iload_n 2, 1) := by decide +kernel
theorem dX2_passTurn_105 : decode cX2_passTurn 105 = .ok (.iload 6, 2) := by decide +kernel
theorem dX2_passTurn_107 : decode cX2_passTurn 107 = .ok (.iadd, 1) := by decide +kernel
theorem dX2_passTurn_108 : decode cX2_passTurn 108 = .ok (.istore_n 2, 1) := by decide +kernel
theorem dX2_passTurn_109 : decode cX2_passTurn 109 = .ok (.iinc 5 1, 3) := by decide +kernel
theorem dX2_passTurn_112 : decode cX2_passTurn 112 = .ok (.goto (-41), 3) := by decide +kernel
theorem dX2_passTurn_115 : decode cX2_passTurn 115 = .ok (.iinc 3 1, 3) := by decide +kernel
theorem dX2_passTurn_118 : decode cX2_passTurn 118 = .ok (.goto (-93), 3) := by decide +kernel
theorem dX2_passTurn_121 : decode cX2_passTurn 121 = .ok (.aload_n 0, 1) := by decide +kernel
theorem dX2_passTurn_122 : decode cX2_passTurn 122 = .ok (.dup, 1) := by decide +kernel
theorem dX2_passTurn_123 : decode cX2_passTurn 123 = .ok (.getfield 53, 3) := by decide +kernel
theorem dX2_passTurn_126 : decode cX2_passTurn 126 = .ok (.iconst 1, 1) := by decide +kernel
theorem dX2_passTurn_127 : decode cX2_passTurn 127 = .ok (.iadd, 1) := by decide +kernel
theorem dX2_passTurn_128 : decode cX2_passTurn 128 = .ok (.putfield 53, 3) := by decide +kernel
theorem dX2_passTurn_131 : decode cX2_passTurn 131 = .ok (.iload_n 2, 1) := by decide +kernel
theorem dX2_passTurn_132 : decode cX2_passTurn 132 = .ok (.ireturn, 1) := by decide +kernel
theorem dX2_letFirstTry_0 : decode cX2_letFirstTry 0 = .ok (.aload_n 1, 1) := by decide +kernel
theorem dX2_letFirstTry_1 : decode cX2_letFirstTry 1 = .ok (.iconst 0, 1) := by decide +kernel
theorem dX2_letFirstTry_2 : decode cX2_letFirstTry 2 = .ok (.invokevirtual 153, 3) := by decide +kernel
theorem dX2_letFirstTry_5 : decode cX2_letFirstTry 5 = .ok (.istore_n 2, 1) := by decide +kernel
theorem dX2_letFirstTry_6 : decode cX2_letFirstTry 6 = .ok (.aload_n 0, 1) := by decide +kernel
theorem dX2_letFirstTry_7 : decode cX2_letFirstTry 7 = .ok (.iload_n 2, 1) := by decide +kernel
theorem dX2_letFirstTry_8 : decode cX2_letFirstTry 8 = .ok (.aload_n 0, 1) := by decide +kernel
theorem dX2_letFirstTry_9 : decode cX2_letFirstTry 9 = .ok (.getfield 24, 3) := by decide +kernel
theorem dX2_letFirstTry_12 : decode cX2_letFirstTry 12 = .ok (.iload_n 2, 1) := by decide +kernel
theorem dX2_letFirstTry_13 : decode cX2_letFirstTry 13 = .ok (.invokestatic 91, 3) := by decide +kernel
theorem dX2_letFirstTry_16 : decode cX2_letFirstTry 16 = .ok (.invokevirtual 105, 3) := by decide +kernel
theorem dX2_letFirstTry_19 : decode cX2_letFirstTry 19 = .ok (.aload_n 0, 1) := by decide +kernel
theorem dX2_letFirstTry_20 : decode cX2_letFirstTry 20 = .ok (.getfield 62, 3) := by decide +kernel
theorem dX2_letFirstTry_23 : decode cX2_letFirstTry 23 = .ok (.if_icmp .ge 7, 3) := by decide +kernel
theorem dX2_letFirstTry_26 : decode cX2_letFirstTry 26 = .ok (.iconst 1, 1) := by decide +kernel
theorem dX2_letFirstTry_27 : decode cX2_letFirstTry 27 = .ok (.goto 4, 3) := by decide +kernel
theorem dX2_letFirstTry_30 : decode cX2_letFirstTry 30 = .ok (.iconst 0, 1) := by decide +kernel
theorem dX2_letFirstTry_31 : decode cX2_letFirstTry 31 = .ok (.istore_n 3, 1) := by decide +kernel
theorem dX2_letFirstTry_32 : decode cX2_letFirstTry 32 = .ok (.aload_n 1, 1) := by decide +kernel
theorem dX2_letFirstTry_33 : decode cX2_letFirstTry 33 = .ok (.iconst 0, 1) := by decide +kernel
theorem dX2_letFirstTry_34 : decode cX2_letFirstTry 34 = .ok (.invokevirtual 129, 3) := by decide +kernel
theorem dX2_letFirstTry_37 : decode cX2_letFirstTry 37 = .ok (.aload_n 0, 1) := by decide +kernel
theorem dX2_letFirstTry_38 : decode cX2_letFirstTry 38 = .ok (.getfield 49, 3) := by decide +kernel
theorem dX2_letFirstTry_41 : decode cX2_letFirstTry 41 = .ok (.iload_n 3, 1) := by decide +kernel
theorem dX2_letFirstTry_42 : decode cX2_letFirstTry 42 = .ok (.invokevirtual 111, 3) := by decide +kernel
theorem dX2_letFirstTry_45 : decode cX2_letFirstTry 45 = .ok (.iadd, 1) := by decide +kernel
theorem dX2_letFirstTry_46 : decode cX2_letFirstTry 46 = .ok (.istore 4, 2) := by decide +kernel
theorem dX2_letFirstTry_48 : decode cX2_letFirstTry 48 = .ok (.aload_n 1, 1) := by decide +kernel
theorem dX2_letFirstTry_49 : decode cX2_letFirstTry 49 = .ok (.iconst 0, 1) := by decide +kernel
theorem dX2_letFirstTry_50 : decode cX2_letFirstTry 50 = .ok (.invokevirtual 156, 3) := by decide +kernel
theorem dX2_letFirstTry_53 : decode cX2_letFirstTry 53 = .ok (.aload_n 0, 1) := by decide +kernel
theorem dX2_letFirstTry_54 : decode cX2_letFirstTry 54 = .ok (.getfield 18, 3) := by decide +kernel
theorem dX2_letFirstTry_57 : decode cX2_letFirstTry 57 = .ok (.iload_n 2, 1) := by decide +kernel
theorem dX2_letFirstTry_58 : decode cX2_letFirstTry 58 = .ok (.invokestatic 91, 3) := by decide +kernel
theorem dX2_letFirstTry_61 : decode cX2_letFirstTry 61 = .ok (.iload 4, 2) := by decide +kernel
theorem dX2_letFirstTry_63 : decode cX2_letFirstTry 63 = .ok (.if_icmp .ge 5, 3) := by decide +kernel
theorem dX2_letFirstTry_66 : decode cX2_letFirstTry 66 = .ok (.iconst 0, 1) := by decide +kernel
theorem dX2_letFirstTry_67 : decode cX2_letFirstTry 67 = .ok (.ireturn, 1) := by decide +kernel
theorem dX2_letFirstTry_68 : decode cX2_letFirstTry 68 = .ok (.aload_n 0, 1) := by decide +kernel
theorem dX2_letFirstTry_69 : decode cX2_letFirstTry 69 = .ok (.getfield 18, 3) := by decide +kernel
theorem dX2_letFirstTry_72 : decode cX2_letFirstTry 72 = .ok (.iload_n 2, 1) := by decide +kernel
theorem dX2_letFirstTry_73 : decode cX2_letFirstTry 73 = .ok (.iload 4, 2) := by decide +kernel
theorem dX2_letFirstTry_75 : decode cX2_letFirstTry 75 = .ok (.ineg, 1) := by decide +kernel
theorem dX2_letFirstTry_76 : decode cX2_letFirstTry 76 = .ok (.invokestatic 160, 3) := by decide +kernel
theorem dX2_letFirstTry_79 : decode cX2_letFirstTry 79 = .ok (.aload_n 0, 1) := by decide +kernel
theorem dX2_letFirstTry_80 : decode cX2_letFirstTry 80 = .ok (.dup, 1) := by decide +kernel
theorem dX2_letFirstTry_81 : decode cX2_letFirstTry 81 = .ok (.getfield 63, 3) := by decide +kernel
theorem dX2_letFirstTry_84 : decode cX2_letFirstTry 84 = .ok (.iload 4, 2) := by decide +kernel
theorem dX2_letFirstTry_86 : decode cX2_letFirstTry 86 = .ok (.iadd, 1) := by decide +kernel
theorem dX2_letFirstTry_87 : decode cX2_letFirstTry 87 = .ok (.putfield 63, 3) := by decide +kernel
theorem dX2_letFirstTry_90 : decode cX2_letFirstTry 90 = .ok (.aload_n 0, 1) := by decide +kernel
theorem dX2_letFirstTry_91 : decode cX2_letFirstTry 91 = .ok (.getfield 15, 3) := by decide +kernel
theorem dX2_letFirstTry_94 : decode cX2_letFirstTry 94 = .ok (.iload_n 2, 1) := by decide +kernel
theorem dX2_letFirstTry_95 : decode cX2_letFirstTry 95 = .ok (.aload_n 0, 1) := by decide +kernel
theorem dX2_letFirstTry_96 : decode cX2_letFirstTry 96 = .ok (.invokevirtual 136, 3) := by decide +kernel
theorem dX2_letFirstTry_99 : decode cX2_letFirstTry 99 = .ok (.ifCond .ne 7, 3) := by decide +kernel
theorem dX2_letFirstTry_102 : decode cX2_letFirstTry 102 = .ok (.iconst 1, 1) := by decide +kernel
theorem dX2_letFirstTry_103 : decode cX2_letFirstTry 103 = .ok (.goto 4, 3) := by decide +kernel
theorem dX2_letFirstTry_106 : decode cX2_letFirstTry 106 = .ok (.iconst 0, 1) := by decide +kernel
theorem dX2_letFirstTry_107 : decode cX2_letFirstTry 107 = .ok (.invokestatic 66, 3) := by decide +kernel
theorem dX2_letFirstTry_110 : decode cX2_letFirstTry 110 = .ok (.aload_n 0, 1) := by decide +kernel
theorem dX2_letFirstTry_111 : decode cX2_letFirstTry 111 = .ok (.getfield 27, 3) := by decide +kernel
theorem dX2_letFirstTry_114 : decode cX2_letFirstTry 114 = .ok (.iload_n 2, 1) := by decide +kernel
theorem dX2_letFirstTry_115 : decode cX2_letFirstTry 115 = .ok (.iconst 1, 1) := by decide +kernel
theorem dX2_letFirstTry_116 : decode cX2_letFirstTry 116 = .ok (.invokestatic 160, 3) := by decide +kernel
theorem dX2_letFirstTry_119 : decode cX2_letFirstTry 119 = .ok (.aload_n 0, 1) := by decide +kernel
theorem dX2_letFirstTry_120 : decode cX2_letFirstTry 120 = .ok (.iload_n 2, 1) := by decide +kernel
theorem dX2_letFirstTry_121 : decode cX2_letFirstTry 121 = .ok (.invokevirtual 163, 3) := by decide +kernel
theorem dX2_letFirstTry_124 : decode cX2_letFirstTry 124 = .ok (.aload_n 0, 1) := by decide +kernel
theorem dX2_letFirstTry_125 : decode cX2_letFirstTry 125 = .ok (.iload_n 3, 1) := by decide +kernel
theorem dX2_letFirstTry_126 : decode cX2_letFirstTry 126 = .ok (.aload_n 0, 1) := by decide +kernel
theorem dX2_letFirstTry_127 : decode cX2_letFirstTry 127 = .ok (.getfield 49, 3) := by decide +kernel
theorem dX2_letFirstTry_130 : decode cX2_letFirstTry 130 = .ok (.iload_n 2, 1) := by decide +kernel
theorem dX2_letFirstTry_131 : decode cX2_letFirstTry 131 = .ok (.invokevirtual 80, 3) := by decide +kernel
theorem dX2_letFirstTry_134 : decode cX2_letFirstTry 134 = .ok (.invokevirtual 166, 3) := by decide +kernel
theorem dX2_letFirstTry_137 : decode cX2_letFirstTry 137 = .ok (.iconst 1, 1) := by decide +kernel
theorem dX2_letFirstTry_138 : decode cX2_letFirstTry 138 = .ok (.ireturn, 1) := by decide +kernel
theorem dX2_countRoyalCoinsOf_0 : decode cX2_countRoyalCoinsOf 0 = .ok (.iconst 0, 1) := by decide +kernel
theorem dX2_countRoyalCoinsOf_1 : decode cX2_countRoyalCoinsOf 1 = .ok (.istore_n 2, 1) := by decide +kernel
theorem dX2_countRoyalCoinsOf_2 : decode cX2_countRoyalCoinsOf 2 = .ok (.iload_n 2, 1) := by decide +kernel
theorem dX2_countRoyalCoinsOf_3 : decode cX2_countRoyalCoinsOf 3 = .ok (.aload_n 0, 1) := by decide +kernel
theorem dX2_countRoyalCoinsOf_4 : decode cX2_countRoyalCoinsOf 4 = .ok (.getfield 49, 3) := by decide +kernel
theorem dX2_countRoyalCoinsOf_7 : decode cX2_countRoyalCoinsOf 7 = .ok (.getfield 88, 3) := by decide +kernel
theorem dX2_countRoyalCoinsOf_10 : decode cX2_countRoyalCoinsOf 10 = .ok (.if_icmp .ge 30, 3) := by decide +kernel
theorem dX2_countRoyalCoinsOf_13 : decode cX2_countRoyalCoinsOf 13 = .ok (.aload_n 0, 1) := by decide +kernel
theorem dX2_countRoyalCoinsOf_14 : decode cX2_countRoyalCoinsOf 14 = .ok (.getfield 30, 3) := by decide +kernel
theorem dX2_countRoyalCoinsOf_17 : decode cX2_countRoyalCoinsOf 17 = .ok (.iload_n 2, 1) := by decide +kernel
theorem dX2_countRoyalCoinsOf_18 : decode cX2_countRoyalCoinsOf 18 = .ok (.invokestatic 91, 3) := by decide +kernel
theorem dX2_countRoyalCoinsOf_21 : decode cX2_countRoyalCoinsOf 21 = .ok (.iload_n 1, 1) := by decide +kernel
theorem dX2_countRoyalCoinsOf_22 : decode cX2_countRoyalCoinsOf 22 = .ok (.if_icmp .ne 12, 3) := by decide +kernel
theorem dX2_countRoyalCoinsOf_25 : decode cX2_countRoyalCoinsOf 25 = .ok (.aload_n 0, 1) := by decide +kernel
theorem dX2_countRoyalCoinsOf_26 : decode cX2_countRoyalCoinsOf 26 = .ok (.getfield 36, 3) := by decide +kernel
theorem dX2_countRoyalCoinsOf_29 : decode cX2_countRoyalCoinsOf 29 = .ok (.iload_n 2, 1) := by decide +kernel
theorem dX2_countRoyalCoinsOf_30 : decode cX2_countRoyalCoinsOf 30 = .ok (.iconst 1, 1) := by decide +kernel
theorem dX2_countRoyalCoinsOf_31 : decode cX2_countRoyalCoinsOf 31 = .ok (.invokestatic 66, 3) := by decide +kernel
theorem dX2_countRoyalCoinsOf_34 : decode cX2_countRoyalCoinsOf 34 = .ok (.iinc 2 1, 3) := by decide +kernel
theorem dX2_countRoyalCoinsOf_37 : decode cX2_countRoyalCoinsOf 37 = .ok (.goto (-35), 3) := by decide +kernel
theorem dX2_countRoyalCoinsOf_40 : decode cX2_countRoyalCoinsOf 40 = .ok (.return_, 1) := by decide +kernel
theorem dX2_learn_0 : decode cX2_learn 0 = .ok (.iload_n 1, 1) := by decide +kernel
theorem dX2_learn_1 : decode cX2_learn 1 = .ok (.ifCond .eq 30, 3) := by decide +kernel
theorem dX2_learn_4 : decode cX2_learn 4 = .ok (.iload_n 2, 1) := by decide +kernel
theorem dX2_learn_5 : decode cX2_learn 5 = .ok (.ifCond .ne 26, 3) := by decide +kernel
theorem dX2_learn_8 : decode cX2_learn 8 = .ok (.aload_n 0, 1) := by decide +kernel
theorem dX2_learn_9 : decode cX2_learn 9 = .ok (.iconst 0, 1) := by decide +kernel
theorem dX2_learn_10 : decode cX2_learn 10 = .ok (.aload_n 0, 1) := by decide +kernel
theorem dX2_learn_11 : decode cX2_learn 11 = .ok (.getfield 62, 3) := by decide +kernel
theorem dX2_learn_14 : decode cX2_learn 14 = .ok (.aload_n 0, 1) := by decide +kernel
theorem dX2_learn_15 : decode cX2_learn 15 = .ok (.getfield 49, 3) := by decide +kernel
theorem dX2_learn_18 : decode cX2_learn 18 = .ok (.getfield 170, 3) := by decide +kernel
theorem dX2_learn_21 : decode cX2_learn 21 = .ok (.isub, 1) := by decide +kernel
theorem dX2_learn_22 : decode cX2_learn 22 = .ok (.invokestatic 173, 3) := by decide +kernel
theorem dX2_learn_25 : decode cX2_learn 25 = .ok (.putfield 62, 3) := by decide +kernel
theorem dX2_learn_28 : decode cX2_learn 28 = .ok (.goto 32, 3) := by decide +kernel
theorem dX2_learn_31 : decode cX2_learn 31 = .ok (.iload_n 1, 1) := by decide +kernel
theorem dX2_learn_32 : decode cX2_learn 32 = .ok (.ifCond .ne 28, 3) := by decide +kernel
theorem dX2_learn_35 : decode cX2_learn 35 = .ok (.iload_n 2, 1) := by decide +kernel
theorem dX2_learn_36 : decode cX2_learn 36 = .ok (.ifCond .eq 24, 3) := by decide +kernel
theorem dX2_learn_39 : decode cX2_learn 39 = .ok (.aload_n 0, 1) := by decide +kernel
theorem dX2_learn_40 : decode cX2_learn 40 = .ok (.bipush 90, 2) := by decide +kernel
theorem dX2_learn_42 : decode cX2_learn 42 = .ok (.aload_n 0, 1) := by decide +kernel
theorem dX2_learn_43 : decode cX2_learn 43 = .ok (.getfield 62, 3) := by decide +kernel
theorem dX2_learn_46 : decode cX2_learn 46 = .ok (.aload_n 0, 1) := by decide +kernel
theorem dX2_learn_47 : decode cX2_learn 47 = .ok (.getfield 49, 3) := by decide +kernel
theorem dX2_learn_50 : decode cX2_learn 50 = .ok (.getfield 170, 3) := by decide +kernel
theorem dX2_learn_53 : decode cX2_learn 53 = .ok (.iadd, 1) := by decide +kernel
theorem dX2_learn_54 : decode cX2_learn 54 = .ok (.invokestatic 178, 3) := by decide +kernel
theorem dX2_learn_57 : decode cX2_learn 57 = .ok (.putfield 62, 3) := by decide +kernel
theorem dX2_learn_60 : decode cX2_learn 60 = .ok (.return_, 1) := by decide +kernel
theorem dX2_faultOf_0 : decode cX2_faultOf 0 = .ok (.aload_n 1, 1) := by decide +kernel
theorem dX2_faultOf_1 : decode cX2_faultOf 1 = .ok (.getfield 181, 3) := by decide +kernel
theorem dX2_faultOf_4 : decode cX2_faultOf 4 = .ok (.ifCond .le 14, 3) := by decide +kernel
theorem dX2_faultOf_7 : decode cX2_faultOf 7 = .ok (.aload_n 0, 1) := by decide +kernel
theorem dX2_faultOf_8 : decode cX2_faultOf 8 = .ok (.getfield 49, 3) := by decide +kernel
theorem dX2_faultOf_11 : decode cX2_faultOf 11 = .ok (.iload_n 2, 1) := by decide +kernel
theorem dX2_faultOf_12 : decode cX2_faultOf 12 = .ok (.invokevirtual 184, 3) := by decide +kernel
theorem dX2_faultOf_15 : decode cX2_faultOf 15 = .ok (.ifCond .eq 22, 3) := by decide +kernel
theorem dX2_faultOf_18 : decode cX2_faultOf 18 = .ok (.aload_n 1, 1) := by decide +kernel
theorem dX2_faultOf_19 : decode cX2_faultOf 19 = .ok (.getfield 181, 3) := by decide +kernel
theorem dX2_faultOf_22 : decode cX2_faultOf 22 = .ok (.iconst 1, 1) := by decide +kernel
theorem dX2_faultOf_23 : decode cX2_faultOf 23 = .ok (.if_icmp .le 16, 3) := by decide +kernel
theorem dX2_faultOf_26 : decode cX2_faultOf 26 = .ok (.aload_n 0, 1) := by decide +kernel
theorem dX2_faultOf_27 : decode cX2_faultOf 27 = .ok (.getfield 49, 3) := by decide +kernel
theorem dX2_faultOf_30 : decode cX2_faultOf 30 = .ok (.iload_n 3, 1) := by decide +kernel
theorem dX2_faultOf_31 : decode cX2_faultOf 31 = .ok (.invokevirtual 184, 3) := by decide +kernel
theorem dX2_faultOf_34 : decode cX2_faultOf 34 = .ok (.ifCond .ne 5, 3) := by decide +kernel
theorem dX2_faultOf_37 : decode cX2_faultOf 37 = .ok (.iconst 1, 1) := by decide +kernel
theorem dX2_faultOf_38 : decode cX2_faultOf 38 = .ok (.ireturn, 1) := by decide +kernel
theorem dX2_faultOf_39 : decode cX2_faultOf 39 = .ok (.aload_n 0, 1) := by decide +kernel
theorem dX2_faultOf_40 : decode cX2_faultOf 40 = .ok (.aload_n 1, 1) := by decide +kernel
theorem dX2_faultOf_41 : decode cX2_faultOf 41 = .ok (.iload_n 2, 1) := by decide +kernel
theorem dX2_faultOf_42 : decode cX2_faultOf 42 = .ok (.iload_n 3, 1) := by decide +kernel
theorem dX2_faultOf_43 : decode cX2_faultOf 43 = .ok (.invokevirtual 187, 3) := by decide +kernel
theorem dX2_faultOf_46 : decode cX2_faultOf 46 = .ok (.ifCond .ne 5, 3) := by decide +kernel
theorem dX2_faultOf_49 : decode cX2_faultOf 49 = .ok (.iconst 2, 1) := by decide +kernel
theorem dX2_faultOf_50 : decode cX2_faultOf 50 = .ok (.ireturn, 1) := by decide +kernel
theorem dX2_faultOf_51 : decode cX2_faultOf 51 = .ok (.aload_n 0, 1) := by decide +kernel
theorem dX2_faultOf_52 : decode cX2_faultOf 52 = .ok (.aload_n 1, 1) := by decide +kernel
theorem dX2_faultOf_53 : decode cX2_faultOf 53 = .ok (.iload_n 2, 1) := by decide +kernel
theorem dX2_faultOf_54 : decode cX2_faultOf 54 = .ok (.iload_n 3, 1) := by decide +kernel
theorem dX2_faultOf_55 : decode cX2_faultOf 55 = .ok (.invokevirtual 191, 3) := by decide +kernel
theorem dX2_faultOf_58 : decode cX2_faultOf 58 = .ok (.ifCond .eq 7, 3) := by decide +kernel
theorem dX2_faultOf_61 : decode cX2_faultOf 61 = .ok (.iconst 0, 1) := by decide +kernel
theorem dX2_faultOf_62 : decode cX2_faultOf 62 = .ok (.goto 4, 3) := by decide +kernel
theorem dX2_faultOf_65 : decode cX2_faultOf 65 = .ok (.iconst 3, 1) := by decide +kernel
theorem dX2_faultOf_66 : decode cX2_faultOf 66 = .ok (.ireturn, 1) := by decide +kernel
theorem dX2_isSound_0 : decode cX2_isSound 0 = .ok (.getstatic 194, 3) := by decide +kernel
theorem dX2_isSound_3 : decode cX2_isSound 3 = .ok (.aload_n 1, 1) := by decide +kernel
theorem dX2_isSound_4 : decode cX2_isSound 4 = .ok (.invokevirtual 199, 3) := by decide +kernel
theorem dX2_isSound_7 : decode cX2_isSound 7 = .ok (.iaload, 1) := by decide +kernel
theorem dX2_isSound_8 : decode cX2_isSound 8 = .ok (.tableswitch 64 1 5 #[36, 36, 45, 56, 58], 36) := by decide +kernel
theorem dX2_isSound_44 : decode cX2_isSound 44 = .ok (.aload_n 0, 1) := by decide +kernel
theorem dX2_isSound_45 : decode cX2_isSound 45 = .ok (.getfield 49, 3) := by decide +kernel
theorem dX2_isSound_48 : decode cX2_isSound 48 = .ok (.iload_n 3, 1) := by decide +kernel
theorem dX2_isSound_49 : decode cX2_isSound 49 = .ok (.invokevirtual 80, 3) := by decide +kernel
theorem dX2_isSound_52 : decode cX2_isSound 52 = .ok (.ireturn, 1) := by decide +kernel
theorem dX2_isSound_53 : decode cX2_isSound 53 = .ok (.iload_n 2, 1) := by decide +kernel
theorem dX2_isSound_54 : decode cX2_isSound 54 = .ok (.iload_n 3, 1) := by decide +kernel
theorem dX2_isSound_55 : decode cX2_isSound 55 = .ok (.if_icmp .eq 7, 3) := by decide +kernel
theorem dX2_isSound_58 : decode cX2_isSound 58 = .ok (.iconst 1, 1) := by decide +kernel
theorem dX2_isSound_59 : decode cX2_isSound 59 = .ok (.goto 4, 3) := by decide +kernel
theorem dX2_isSound_62 : decode cX2_isSound 62 = .ok (.iconst 0, 1) := by decide +kernel
theorem dX2_isSound_63 : decode cX2_isSound 63 = .ok (.ireturn, 1) := by decide +kernel
theorem dX2_isSound_64 : decode cX2_isSound 64 = .ok (.iconst 1, 1) := by decide +kernel
theorem dX2_isSound_65 : decode cX2_isSound 65 = .ok (.ireturn, 1) := by decide +kernel
theorem dX2_isSound_66 : decode cX2_isSound 66 = .ok (.aload_n 1, 1) := by decide +kernel
theorem dX2_isSound_67 : decode cX2_isSound 67 = .ok (.iload_n 2, 1) := by decide +kernel
theorem dX2_isSound_68 : decode cX2_isSound 68 = .ok (.invokevirtual 202, 3) := by decide +kernel
theorem dX2_isSound_71 : decode cX2_isSound 71 = .ok (.ireturn, 1) := by decide +kernel
theorem dX2_isSound_72 : decode cX2_isSound 72 = .ok (.aload_n 1, 1) := by decide +kernel
theorem dX2_isSound_73 : decode cX2_isSound 73 = .ok (.iload_n 3, 1) := by decide +kernel
theorem dX2_isSound_74 : decode cX2_isSound 74 = .ok (.invokevirtual 202, 3) := by decide +kernel
theorem dX2_isSound_77 : decode cX2_isSound 77 = .ok (.ireturn, 1) := by decide +kernel
theorem dX2_isPossible_0 : decode cX2_isPossible 0 = .ok (.getstatic 194, 3) := by decide +kernel
theorem dX2_isPossible_3 : decode cX2_isPossible 3 = .ok (.aload_n 1, 1) := by decide +kernel
theorem dX2_isPossible_4 : decode cX2_isPossible 4 = .ok (.invokevirtual 199, 3) := by decide +kernel
theorem dX2_isPossible_7 : decode cX2_isPossible 7 = .ok (.iaload, 1) := by decide +kernel
theorem dX2_isPossible_8 : decode cX2_isPossible 8 = .ok (.tableswitch 219 1 8 #[91, 109, 146, 186, 201, 48, 66, 171], 48) := by decide +kernel
theorem dX2_isPossible_56 : decode cX2_isPossible 56 = .ok (.aload_n 0, 1) := by decide +kernel
theorem dX2_isPossible_57 : decode cX2_isPossible 57 = .ok (.getfield 18, 3) := by decide +kernel
theorem dX2_isPossible_60 : decode cX2_isPossible 60 = .ok (.iload_n 2, 1) := by decide +kernel
theorem dX2_isPossible_61 : decode cX2_isPossible 61 = .ok (.invokestatic 91, 3) := by decide +kernel
theorem dX2_isPossible_64 : decode cX2_isPossible 64 = .ok (.iload_n 3, 1) := by decide +kernel
theorem dX2_isPossible_65 : decode cX2_isPossible 65 = .ok (.if_icmp .lt 7, 3) := by decide +kernel
theorem dX2_isPossible_68 : decode cX2_isPossible 68 = .ok (.iconst 1, 1) := by decide +kernel
theorem dX2_isPossible_69 : decode cX2_isPossible 69 = .ok (.goto 4, 3) := by decide +kernel
theorem dX2_isPossible_72 : decode cX2_isPossible 72 = .ok (.iconst 0, 1) := by decide +kernel
theorem dX2_isPossible_73 : decode cX2_isPossible 73 = .ok (.ireturn, 1) := by decide +kernel
theorem dX2_isPossible_74 : decode cX2_isPossible 74 = .ok (.aload_n 0, 1) := by decide +kernel
theorem dX2_isPossible_75 : decode cX2_isPossible 75 = .ok (.getfield 9, 3) := by decide +kernel
theorem dX2_isPossible_78 : decode cX2_isPossible 78 = .ok (.aload_n 0, 1) := by decide +kernel
theorem dX2_isPossible_79 : decode cX2_isPossible 79 = .ok (.getfield 15, 3) := by decide +kernel
theorem dX2_isPossible_82 : decode cX2_isPossible 82 = .ok (.iload_n 2, 1) := by decide +kernel
theorem dX2_isPossible_83 : decode cX2_isPossible 83 = .ok (.invokestatic 91, 3) := by decide +kernel
theorem dX2_isPossible_86 : decode cX2_isPossible 86 = .ok (.invokestatic 91, 3) := by decide +kernel
theorem dX2_isPossible_89 : decode cX2_isPossible 89 = .ok (.iload_n 3, 1) := by decide +kernel
theorem dX2_isPossible_90 : decode cX2_isPossible 90 = .ok (.if_icmp .lt 7, 3) := by decide +kernel
theorem dX2_isPossible_93 : decode cX2_isPossible 93 = .ok (.iconst 1, 1) := by decide +kernel
theorem dX2_isPossible_94 : decode cX2_isPossible 94 = .ok (.goto 4, 3) := by decide +kernel
theorem dX2_isPossible_97 : decode cX2_isPossible 97 = .ok (.iconst 0, 1) := by decide +kernel
theorem dX2_isPossible_98 : decode cX2_isPossible 98 = .ok (.ireturn, 1) := by decide +kernel
theorem dX2_isPossible_99 : decode cX2_isPossible 99 = .ok (.aload_n 0, 1) := by decide +kernel
theorem dX2_isPossible_100 : decode cX2_isPossible 100 = .ok (.getfield 30, 3) := by decide +kernel
theorem dX2_isPossible_103 : decode cX2_isPossible 103 = .ok (.iload_n 3, 1) := by decide +kernel
theorem dX2_isPossible_104 : decode cX2_isPossible 104 = .ok (.invokestatic 91, 3) := by decide +kernel
theorem dX2_isPossible_107 : decode cX2_isPossible 107 = .ok (.iload_n 2, 1) := by decide +kernel
theorem dX2_isPossible_108 : decode cX2_isPossible 108 = .ok (.if_icmp .ne 7, 3) := by decide +kernel
theorem dX2_isPossible_111 : decode cX2_isPossible 111 = .ok (.iconst 1, 1) := by decide +kernel
theorem dX2_isPossible_112 : decode cX2_isPossible 112 = .ok (.goto 4, 3) := by decide +kernel
theorem dX2_isPossible_115 : decode cX2_isPossible 115 = .ok (.iconst 0, 1) := by decide +kernel
theorem dX2_isPossible_116 : decode cX2_isPossible 116 = .ok (.ireturn, 1) := by decide +kernel
theorem dX2_isPossible_117 : decode cX2_isPossible 117 = .ok (.aload_n 0, 1) := by decide +kernel
theorem dX2_isPossible_118 : decode cX2_isPossible 118 = .ok (.getfield 30, 3) := by decide +kernel
theorem dX2_isPossible_121 : decode cX2_isPossible 121 = .ok (.iload_n 3, 1) := by decide +kernel
theorem dX2_isPossible_122 : decode cX2_isPossible 122 = .ok (.invokestatic 91, 3) := by decide +kernel
theorem dX2_isPossible_125 : decode cX2_isPossible 125 = .ok (.iconst (-1), 1) := by decide +kernel
theorem dX2_isPossible_126 : decode cX2_isPossible 126 = .ok (.if_icmp .ne 26, 3) := by decide +kernel
theorem dX2_isPossible_129 : decode cX2_isPossible 129 = .ok (.aload_n 0, 1) := by decide +kernel
theorem dX2_isPossible_130 : decode cX2_isPossible 130 = .ok (.getfield 33, 3) := by decide +kernel
theorem dX2_isPossible_133 : decode cX2_isPossible 133 = .ok (.iload_n 3, 1) := by decide +kernel
theorem dX2_isPossible_134 : decode cX2_isPossible 134 = .ok (.invokestatic 91, 3) := by decide +kernel
theorem dX2_isPossible_137 : decode cX2_isPossible 137 = .ok (.aload_n 0, 1) := by decide +kernel
theorem dX2_isPossible_138 : decode cX2_isPossible 138 = .ok (.getfield 15, 3) := by decide +kernel
theorem dX2_isPossible_141 : decode cX2_isPossible 141 = .ok (.iload_n 2, 1) := by decide +kernel
theorem dX2_isPossible_142 : decode cX2_isPossible 142 = .ok (.invokestatic 91, 3) := by decide +kernel
theorem dX2_isPossible_145 : decode cX2_isPossible 145 = .ok (.if_icmp .ne 7, 3) := by decide +kernel
theorem dX2_isPossible_148 : decode cX2_isPossible 148 = .ok (.iconst 1, 1) := by decide +kernel
theorem dX2_isPossible_149 : decode cX2_isPossible 149 = .ok (.goto 4, 3) := by decide +kernel
theorem dX2_isPossible_152 : decode cX2_isPossible 152 = .ok (.iconst 0, 1) := by decide +kernel
theorem dX2_isPossible_153 : decode cX2_isPossible 153 = .ok (.ireturn, 1) := by decide +kernel
theorem dX2_isPossible_154 : decode cX2_isPossible 154 = .ok (.aload_n 0, 1) := by decide +kernel
theorem dX2_isPossible_155 : decode cX2_isPossible 155 = .ok (.getfield 15, 3) := by decide +kernel
theorem dX2_isPossible_158 : decode cX2_isPossible 158 = .ok (.iload_n 2, 1) := by decide +kernel
theorem dX2_isPossible_159 : decode cX2_isPossible 159 = .ok (.invokestatic 91, 3) := by decide +kernel
theorem dX2_isPossible_162 : decode cX2_isPossible 162 = .ok (.aload_n 0, 1) := by decide +kernel
theorem dX2_isPossible_163 : decode cX2_isPossible 163 = .ok (.getfield 15, 3) := by decide +kernel
theorem dX2_isPossible_166 : decode cX2_isPossible 166 = .ok (.iload_n 3, 1) := by decide +kernel
theorem dX2_isPossible_167 : decode cX2_isPossible 167 = .ok (.invokestatic 91, 3) := by decide +kernel
theorem dX2_isPossible_170 : decode cX2_isPossible 170 = .ok (.if_icmp .ne 7, 3) := by decide +kernel
theorem dX2_isPossible_173 : decode cX2_isPossible 173 = .ok (.iconst 1, 1) := by decide +kernel
theorem dX2_isPossible_174 : decode cX2_isPossible 174 = .ok (.goto 4, 3) := by decide +kernel
theorem dX2_isPossible_177 : decode cX2_isPossible 177 = .ok (.iconst 0, 1) := by decide +kernel
theorem dX2_isPossible_178 : decode cX2_isPossible 178 = .ok (.ireturn, 1) := by decide +kernel
theorem dX2_isPossible_179 : decode cX2_isPossible 179 = .ok (.aload_n 0, 1) := by decide +kernel
theorem dX2_isPossible_180 : decode cX2_isPossible 180 = .ok (.iload_n 2, 1) := by decide +kernel
theorem dX2_isPossible_181 : decode cX2_isPossible 181 = .ok (.invokevirtual 205, 3) := by decide +kernel
theorem dX2_isPossible_184 : decode cX2_isPossible 184 = .ok (.iconst (-1), 1) := by decide +kernel
theorem dX2_isPossible_185 : decode cX2_isPossible 185 = .ok (.if_icmp .ne 7, 3) := by decide +kernel
theorem dX2_isPossible_188 : decode cX2_isPossible 188 = .ok (.iconst 1, 1) := by decide +kernel
theorem dX2_isPossible_189 : decode cX2_isPossible 189 = .ok (.goto 4, 3) := by decide +kernel
theorem dX2_isPossible_192 : decode cX2_isPossible 192 = .ok (.iconst 0, 1) := by decide +kernel
theorem dX2_isPossible_193 : decode cX2_isPossible 193 = .ok (.ireturn, 1) := by decide +kernel
theorem dX2_isPossible_194 : decode cX2_isPossible 194 = .ok (.aload_n 0, 1) := by decide +kernel
theorem dX2_isPossible_195 : decode cX2_isPossible 195 = .ok (.iload_n 2, 1) := by decide +kernel
theorem dX2_isPossible_196 : decode cX2_isPossible 196 = .ok (.invokevirtual 205, 3) := by decide +kernel
theorem dX2_isPossible_199 : decode cX2_isPossible 199 = .ok (.iconst (-1), 1) := by decide +kernel
theorem dX2_isPossible_200 : decode cX2_isPossible 200 = .ok (.if_icmp .eq 7, 3) := by decide +kernel
theorem dX2_isPossible_203 : decode cX2_isPossible 203 = .ok (.iconst 1, 1) := by decide +kernel
theorem dX2_isPossible_204 : decode cX2_isPossible 204 = .ok (.goto 4, 3) := by decide +kernel
theorem dX2_isPossible_207 : decode cX2_isPossible 207 = .ok (.iconst 0, 1) := by decide +kernel
theorem dX2_isPossible_208 : decode cX2_isPossible 208 = .ok (.ireturn, 1) := by decide +kernel
theorem dX2_isPossible_209 : decode cX2_isPossible 209 = .ok (.aload_n 0, 1) := by decide +kernel
theorem dX2_isPossible_210 : decode cX2_isPossible 210 = .ok (.getfield 53, 3) := by decide +kernel
theorem dX2_isPossible_213 : decode cX2_isPossible 213 = .ok (.iload_n 2, 1) := by decide +kernel
theorem dX2_isPossible_214 : decode cX2_isPossible 214 = .ok (.iadd, 1) := by decide +kernel
theorem dX2_isPossible_215 : decode cX2_isPossible 215 = .ok (.sipush 10000, 3) := by decide +kernel
theorem dX2_isPossible_218 : decode cX2_isPossible 218 = .ok (.if_icmp .gt 7, 3) := by decide +kernel
theorem dX2_isPossible_221 : decode cX2_isPossible 221 = .ok (.iconst 1, 1) := by decide +kernel
theorem dX2_isPossible_222 : decode cX2_isPossible 222 = .ok (.goto 4, 3) := by decide +kernel
theorem dX2_isPossible_225 : decode cX2_isPossible 225 = .ok (.iconst 0, 1) := by decide +kernel
theorem dX2_isPossible_226 : decode cX2_isPossible 226 = .ok (.ireturn, 1) := by decide +kernel
theorem dX2_isPossible_227 : decode cX2_isPossible 227 = .ok (.iconst 1, 1) := by decide +kernel
theorem dX2_isPossible_228 : decode cX2_isPossible 228 = .ok (.ireturn, 1) := by decide +kernel
theorem dX2_drop_0 : decode cX2_drop 0 = .ok (.aload_n 0, 1) := by decide +kernel
theorem dX2_drop_1 : decode cX2_drop 1 = .ok (.getfield 15, 3) := by decide +kernel
theorem dX2_drop_4 : decode cX2_drop 4 = .ok (.iload_n 1, 1) := by decide +kernel
theorem dX2_drop_5 : decode cX2_drop 5 = .ok (.invokestatic 91, 3) := by decide +kernel
theorem dX2_drop_8 : decode cX2_drop 8 = .ok (.istore_n 3, 1) := by decide +kernel
theorem dX2_drop_9 : decode cX2_drop 9 = .ok (.aload_n 0, 1) := by decide +kernel
theorem dX2_drop_10 : decode cX2_drop 10 = .ok (.getfield 18, 3) := by decide +kernel
theorem dX2_drop_13 : decode cX2_drop 13 = .ok (.iload_n 1, 1) := by decide +kernel
theorem dX2_drop_14 : decode cX2_drop 14 = .ok (.iload_n 2, 1) := by decide +kernel
theorem dX2_drop_15 : decode cX2_drop 15 = .ok (.ineg, 1) := by decide +kernel
theorem dX2_drop_16 : decode cX2_drop 16 = .ok (.invokestatic 160, 3) := by decide +kernel
theorem dX2_drop_19 : decode cX2_drop 19 = .ok (.aload_n 0, 1) := by decide +kernel
theorem dX2_drop_20 : decode cX2_drop 20 = .ok (.getfield 9, 3) := by decide +kernel
theorem dX2_drop_23 : decode cX2_drop 23 = .ok (.iload_n 3, 1) := by decide +kernel
theorem dX2_drop_24 : decode cX2_drop 24 = .ok (.iload_n 2, 1) := by decide +kernel
theorem dX2_drop_25 : decode cX2_drop 25 = .ok (.invokestatic 160, 3) := by decide +kernel
theorem dX2_drop_28 : decode cX2_drop 28 = .ok (.aload_n 0, 1) := by decide +kernel
theorem dX2_drop_29 : decode cX2_drop 29 = .ok (.getfield 9, 3) := by decide +kernel
theorem dX2_drop_32 : decode cX2_drop 32 = .ok (.iload_n 3, 1) := by decide +kernel
theorem dX2_drop_33 : decode cX2_drop 33 = .ok (.invokestatic 91, 3) := by decide +kernel
theorem dX2_drop_36 : decode cX2_drop 36 = .ok (.ireturn, 1) := by decide +kernel
theorem dX2_pick_0 : decode cX2_pick 0 = .ok (.aload_n 0, 1) := by decide +kernel
theorem dX2_pick_1 : decode cX2_pick 1 = .ok (.getfield 9, 3) := by decide +kernel
theorem dX2_pick_4 : decode cX2_pick 4 = .ok (.aload_n 0, 1) := by decide +kernel
theorem dX2_pick_5 : decode cX2_pick 5 = .ok (.getfield 15, 3) := by decide +kernel
theorem dX2_pick_8 : decode cX2_pick 8 = .ok (.iload_n 1, 1) := by decide +kernel
theorem dX2_pick_9 : decode cX2_pick 9 = .ok (.invokestatic 91, 3) := by decide +kernel
theorem dX2_pick_12 : decode cX2_pick 12 = .ok (.iload_n 2, 1) := by decide +kernel
theorem dX2_pick_13 : decode cX2_pick 13 = .ok (.ineg, 1) := by decide +kernel
theorem dX2_pick_14 : decode cX2_pick 14 = .ok (.invokestatic 160, 3) := by decide +kernel
theorem dX2_pick_17 : decode cX2_pick 17 = .ok (.aload_n 0, 1) := by decide +kernel
theorem dX2_pick_18 : decode cX2_pick 18 = .ok (.getfield 18, 3) := by decide +kernel
theorem dX2_pick_21 : decode cX2_pick 21 = .ok (.iload_n 1, 1) := by decide +kernel
theorem dX2_pick_22 : decode cX2_pick 22 = .ok (.iload_n 2, 1) := by decide +kernel
theorem dX2_pick_23 : decode cX2_pick 23 = .ok (.invokestatic 160, 3) := by decide +kernel
theorem dX2_pick_26 : decode cX2_pick 26 = .ok (.aload_n 0, 1) := by decide +kernel
theorem dX2_pick_27 : decode cX2_pick 27 = .ok (.getfield 18, 3) := by decide +kernel
theorem dX2_pick_30 : decode cX2_pick 30 = .ok (.iload_n 1, 1) := by decide +kernel
theorem dX2_pick_31 : decode cX2_pick 31 = .ok (.invokestatic 91, 3) := by decide +kernel
theorem dX2_pick_34 : decode cX2_pick 34 = .ok (.ireturn, 1) := by decide +kernel
theorem dX2_lay_0 : decode cX2_lay 0 = .ok (.aload_n 0, 1) := by decide +kernel
theorem dX2_lay_1 : decode cX2_lay 1 = .ok (.getfield 30, 3) := by decide +kernel
theorem dX2_lay_4 : decode cX2_lay 4 = .ok (.iload_n 2, 1) := by decide +kernel
theorem dX2_lay_5 : decode cX2_lay 5 = .ok (.iconst (-1), 1) := by decide +kernel
theorem dX2_lay_6 : decode cX2_lay 6 = .ok (.invokestatic 66, 3) := by decide +kernel
theorem dX2_lay_9 : decode cX2_lay 9 = .ok (.aload_n 0, 1) := by decide +kernel
theorem dX2_lay_10 : decode cX2_lay 10 = .ok (.getfield 33, 3) := by decide +kernel
theorem dX2_lay_13 : decode cX2_lay 13 = .ok (.iload_n 2, 1) := by decide +kernel
theorem dX2_lay_14 : decode cX2_lay 14 = .ok (.aload_n 0, 1) := by decide +kernel
theorem dX2_lay_15 : decode cX2_lay 15 = .ok (.getfield 15, 3) := by decide +kernel
theorem dX2_lay_18 : decode cX2_lay 18 = .ok (.iload_n 1, 1) := by decide +kernel
theorem dX2_lay_19 : decode cX2_lay 19 = .ok (.invokestatic 91, 3) := by decide +kernel
theorem dX2_lay_22 : decode cX2_lay 22 = .ok (.invokestatic 66, 3) := by decide +kernel
theorem dX2_lay_25 : decode cX2_lay 25 = .ok (.aload_n 0, 1) := by decide +kernel
theorem dX2_lay_26 : decode cX2_lay 26 = .ok (.iload_n 1, 1) := by decide +kernel
theorem dX2_lay_27 : decode cX2_lay 27 = .ok (.invokevirtual 235, 3) := by decide +kernel
theorem dX2_lay_30 : decode cX2_lay 30 = .ok (.ireturn, 1) := by decide +kernel
theorem dX2_lift_0 : decode cX2_lift 0 = .ok (.aload_n 0, 1) := by decide +kernel
theorem dX2_lift_1 : decode cX2_lift 1 = .ok (.getfield 30, 3) := by decide +kernel
theorem dX2_lift_4 : decode cX2_lift 4 = .ok (.iload_n 2, 1) := by decide +kernel
theorem dX2_lift_5 : decode cX2_lift 5 = .ok (.iload_n 1, 1) := by decide +kernel
theorem dX2_lift_6 : decode cX2_lift 6 = .ok (.invokestatic 66, 3) := by decide +kernel
theorem dX2_lift_9 : decode cX2_lift 9 = .ok (.aload_n 0, 1) := by decide +kernel
theorem dX2_lift_10 : decode cX2_lift 10 = .ok (.iload_n 1, 1) := by decide +kernel
theorem dX2_lift_11 : decode cX2_lift 11 = .ok (.invokevirtual 235, 3) := by decide +kernel
theorem dX2_lift_14 : decode cX2_lift 14 = .ok (.ireturn, 1) := by decide +kernel
theorem dX2_swap_0 : decode cX2_swap 0 = .ok (.aload_n 0, 1) := by decide +kernel
theorem dX2_swap_1 : decode cX2_swap 1 = .ok (.getfield 24, 3) := by decide +kernel
theorem dX2_swap_4 : decode cX2_swap 4 = .ok (.iload_n 1, 1) := by decide +kernel
theorem dX2_swap_5 : decode cX2_swap 5 = .ok (.invokestatic 91, 3) := by decide +kernel
theorem dX2_swap_8 : decode cX2_swap 8 = .ok (.istore_n 3, 1) := by decide +kernel
theorem dX2_swap_9 : decode cX2_swap 9 = .ok (.aload_n 0, 1) := by decide +kernel
theorem dX2_swap_10 : decode cX2_swap 10 = .ok (.getfield 24, 3) := by decide +kernel
theorem dX2_swap_13 : decode cX2_swap 13 = .ok (.iload_n 1, 1) := by decide +kernel
theorem dX2_swap_14 : decode cX2_swap 14 = .ok (.aload_n 0, 1) := by decide +kernel
theorem dX2_swap_15 : decode cX2_swap 15 = .ok (.getfield 24, 3) := by decide +kernel
theorem dX2_swap_18 : decode cX2_swap 18 = .ok (.iload_n 2, 1) := by decide +kernel
theorem dX2_swap_19 : decode cX2_swap 19 = .ok (.invokestatic 91, 3) := by decide +kernel
theorem dX2_swap_22 : decode cX2_swap 22 = .ok (.invokestatic 66, 3) := by decide +kernel
theorem dX2_swap_25 : decode cX2_swap 25 = .ok (.aload_n 0, 1) := by decide +kernel
theorem dX2_swap_26 : decode cX2_swap 26 = .ok (.getfield 24, 3) := by decide +kernel
theorem dX2_swap_29 : decode cX2_swap 29 = .ok (.iload_n 2, 1) := by decide +kernel
theorem dX2_swap_30 : decode cX2_swap 30 = .ok (.iload_n 3, 1) := by decide +kernel
theorem dX2_swap_31 : decode cX2_swap 31 = .ok (.invokestatic 66, 3) := by decide +kernel
theorem dX2_swap_34 : decode cX2_swap 34 = .ok (.aload_n 0, 1) := by decide +kernel
theorem dX2_swap_35 : decode cX2_swap 35 = .ok (.getfield 24, 3) := by decide +kernel
theorem dX2_swap_38 : decode cX2_swap 38 = .ok (.iload_n 1, 1) := by decide +kernel
theorem dX2_swap_39 : decode cX2_swap 39 = .ok (.invokestatic 91, 3) := by decide +kernel
theorem dX2_swap_42 : decode cX2_swap 42 = .ok (.ireturn, 1) := by decide +kernel
theorem dX2_join_0 : decode cX2_join 0 = .ok (.aload_n 0, 1) := by decide +kernel
theorem dX2_join_1 : decode cX2_join 1 = .ok (.aload_n 0, 1) := by decide +kernel
theorem dX2_join_2 : decode cX2_join 2 = .ok (.getfield 15, 3) := by decide +kernel
theorem dX2_join_5 : decode cX2_join 5 = .ok (.iload_n 1, 1) := by decide +kernel
theorem dX2_join_6 : decode cX2_join 6 = .ok (.invokestatic 91, 3) := by decide +kernel
theorem dX2_join_9 : decode cX2_join 9 = .ok (.invokevirtual 122, 3) := by decide +kernel
theorem dX2_join_12 : decode cX2_join 12 = .ok (.iload_n 1, 1) := by decide +kernel
theorem dX2_join_13 : decode cX2_join 13 = .ok (.iload_n 2, 1) := by decide +kernel
theorem dX2_join_14 : decode cX2_join 14 = .ok (.invokevirtual 238, 3) := by decide +kernel
theorem dX2_join_17 : decode cX2_join 17 = .ok (.ireturn, 1) := by decide +kernel
theorem dX2_quit_0 : decode cX2_quit 0 = .ok (.aload_n 0, 1) := by decide +kernel
theorem dX2_quit_1 : decode cX2_quit 1 = .ok (.aload_n 0, 1) := by decide +kernel
theorem dX2_quit_2 : decode cX2_quit 2 = .ok (.getfield 15, 3) := by decide +kernel
theorem dX2_quit_5 : decode cX2_quit 5 = .ok (.iload_n 1, 1) := by decide +kernel
theorem dX2_quit_6 : decode cX2_quit 6 = .ok (.invokestatic 91, 3) := by decide +kernel
theorem dX2_quit_9 : decode cX2_quit 9 = .ok (.invokevirtual 122, 3) := by decide +kernel
theorem dX2_quit_12 : decode cX2_quit 12 = .ok (.astore_n 2, 1) := by decide +kernel
theorem dX2_quit_13 : decode cX2_quit 13 = .ok (.aload_n 2, 1) := by decide +kernel
theorem dX2_quit_14 : decode cX2_quit 14 = .ok (.iload_n 1, 1) := by decide +kernel
theorem dX2_quit_15 : decode cX2_quit 15 = .ok (.invokevirtual 126, 3) := by decide +kernel
theorem dX2_quit_18 : decode cX2_quit 18 = .ok (.istore_n 3, 1) := by decide +kernel
theorem dX2_quit_19 : decode cX2_quit 19 = .ok (.aload_n 2, 1) := by decide +kernel
theorem dX2_quit_20 : decode cX2_quit 20 = .ok (.iload_n 3, 1) := by decide +kernel
theorem dX2_quit_21 : decode cX2_quit 21 = .ok (.invokevirtual 129, 3) := by decide +kernel
theorem dX2_quit_24 : decode cX2_quit 24 = .ok (.istore 4, 2) := by decide +kernel
theorem dX2_quit_26 : decode cX2_quit 26 = .ok (.aload_n 2, 1) := by decide +kernel
theorem dX2_quit_27 : decode cX2_quit 27 = .ok (.iload_n 3, 1) := by decide +kernel
theorem dX2_quit_28 : decode cX2_quit 28 = .ok (.invokevirtual 156, 3) := by decide +kernel
theorem dX2_quit_31 : decode cX2_quit 31 = .ok (.iload 4, 2) := by decide +kernel
theorem dX2_quit_33 : decode cX2_quit 33 = .ok (.ireturn, 1) := by decide +kernel
theorem dX2_changePride_0 : decode cX2_changePride 0 = .ok (.aload_n 0, 1) := by decide +kernel
theorem dX2_changePride_1 : decode cX2_changePride 1 = .ok (.getfield 21, 3) := by decide +kernel
theorem dX2_changePride_4 : decode cX2_changePride 4 = .ok (.iload_n 1, 1) := by decide +kernel
theorem dX2_changePride_5 : decode cX2_changePride 5 = .ok (.invokestatic 91, 3) := by decide +kernel
theorem dX2_changePride_8 : decode cX2_changePride 8 = .ok (.istore_n 3, 1) := by decide +kernel
theorem dX2_changePride_9 : decode cX2_changePride 9 = .ok (.aload_n 0, 1) := by decide +kernel
theorem dX2_changePride_10 : decode cX2_changePride 10 = .ok (.getfield 21, 3) := by decide +kernel
theorem dX2_changePride_13 : decode cX2_changePride 13 = .ok (.iload_n 1, 1) := by decide +kernel
theorem dX2_changePride_14 : decode cX2_changePride 14 = .ok (.iload_n 2, 1) := by decide +kernel
theorem dX2_changePride_15 : decode cX2_changePride 15 = .ok (.invokestatic 66, 3) := by decide +kernel
theorem dX2_changePride_18 : decode cX2_changePride 18 = .ok (.iload_n 3, 1) := by decide +kernel
theorem dX2_changePride_19 : decode cX2_changePride 19 = .ok (.ireturn, 1) := by decide +kernel
theorem dX3_init_0 : decode cX3_init 0 = .ok (.aload_n 0, 1) := by decide +kernel
theorem dX3_init_1 : decode cX3_init 1 = .ok (.invokespecial 3, 3) := by decide +kernel
theorem dX3_init_4 : decode cX3_init 4 = .ok (.aload_n 0, 1) := by decide +kernel
theorem dX3_init_5 : decode cX3_init 5 = .ok (.bipush 10, 2) := by decide +kernel
theorem dX3_init_7 : decode cX3_init 7 = .ok (.newarray .int, 2) := by decide +kernel
theorem dX3_init_9 : decode cX3_init 9 = .ok (.putfield 9, 3) := by decide +kernel
theorem dX3_init_12 : decode cX3_init 12 = .ok (.aload_n 0, 1) := by decide +kernel
theorem dX3_init_13 : decode cX3_init 13 = .ok (.bipush 10, 2) := by decide +kernel
theorem dX3_init_15 : decode cX3_init 15 = .ok (.newarray .int, 2) := by decide +kernel
theorem dX3_init_17 : decode cX3_init 17 = .ok (.putfield 15, 3) := by decide +kernel
theorem dX3_init_20 : decode cX3_init 20 = .ok (.return_, 1) := by decide +kernel
theorem dX3_copyFrom_0 : decode cX3_copyFrom 0 = .ok (.aload_n 0, 1) := by decide +kernel
theorem dX3_copyFrom_1 : decode cX3_copyFrom 1 = .ok (.aload_n 1, 1) := by decide +kernel
theorem dX3_copyFrom_2 : decode cX3_copyFrom 2 = .ok (.getfield 18, 3) := by decide +kernel
theorem dX3_copyFrom_5 : decode cX3_copyFrom 5 = .ok (.putfield 18, 3) := by decide +kernel
theorem dX3_copyFrom_8 : decode cX3_copyFrom 8 = .ok (.aload_n 1, 1) := by decide +kernel
theorem dX3_copyFrom_9 : decode cX3_copyFrom 9 = .ok (.getfield 9, 3) := by decide +kernel
theorem dX3_copyFrom_12 : decode cX3_copyFrom 12 = .ok (.aload_n 0, 1) := by decide +kernel
theorem dX3_copyFrom_13 : decode cX3_copyFrom 13 = .ok (.getfield 9, 3) := by decide +kernel
theorem dX3_copyFrom_16 : decode cX3_copyFrom 16 = .ok (.invokestatic 22, 3) := by decide +kernel
theorem dX3_copyFrom_19 : decode cX3_copyFrom 19 = .ok (.aload_n 1, 1) := by decide +kernel
theorem dX3_copyFrom_20 : decode cX3_copyFrom 20 = .ok (.getfield 15, 3) := by decide +kernel
theorem dX3_copyFrom_23 : decode cX3_copyFrom 23 = .ok (.aload_n 0, 1) := by decide +kernel
theorem dX3_copyFrom_24 : decode cX3_copyFrom 24 = .ok (.getfield 15, 3) := by decide +kernel
theorem dX3_copyFrom_27 : decode cX3_copyFrom 27 = .ok (.invokestatic 22, 3) := by decide +kernel
theorem dX3_copyFrom_30 : decode cX3_copyFrom 30 = .ok (.return_, 1) := by decide +kernel
theorem dX3_personAt_0 : decode cX3_personAt 0 = .ok (.iload_n 1, 1) := by decide +kernel
theorem dX3_personAt_1 : decode cX3_personAt 1 = .ok (.ifCond .lt 22, 3) := by decide +kernel
theorem dX3_personAt_4 : decode cX3_personAt 4 = .ok (.iload_n 1, 1) := by decide +kernel
theorem dX3_personAt_5 : decode cX3_personAt 5 = .ok (.aload_n 0, 1) := by decide +kernel
theorem dX3_personAt_6 : decode cX3_personAt 6 = .ok (.getfield 18, 3) := by decide +kernel
theorem dX3_personAt_9 : decode cX3_personAt 9 = .ok (.if_icmp .ge 14, 3) := by decide +kernel
theorem dX3_personAt_12 : decode cX3_personAt 12 = .ok (.aload_n 0, 1) := by decide +kernel
theorem dX3_personAt_13 : decode cX3_personAt 13 = .ok (.getfield 9, 3) := by decide +kernel
theorem dX3_personAt_16 : decode cX3_personAt 16 = .ok (.iload_n 1, 1) := by decide +kernel
theorem dX3_personAt_17 : decode cX3_personAt 17 = .ok (.invokestatic 26, 3) := by decide +kernel
theorem dX3_personAt_20 : decode cX3_personAt 20 = .ok (.goto 4, 3) := by decide +kernel
theorem dX3_personAt_23 : decode cX3_personAt 23 = .ok (.iconst (-1), 1) := by decide +kernel
theorem dX3_personAt_24 : decode cX3_personAt 24 = .ok (.ireturn, 1) := by decide +kernel
theorem dX3_offerAt_0 : decode cX3_offerAt 0 = .ok (.iload_n 1, 1) := by decide +kernel
theorem dX3_offerAt_1 : decode cX3_offerAt 1 = .ok (.ifCond .lt 22, 3) := by decide +kernel
theorem dX3_offerAt_4 : decode cX3_offerAt 4 = .ok (.iload_n 1, 1) := by decide +kernel
theorem dX3_offerAt_5 : decode cX3_offerAt 5 = .ok (.aload_n 0, 1) := by decide +kernel
theorem dX3_offerAt_6 : decode cX3_offerAt 6 = .ok (.getfield 18, 3) := by decide +kernel
theorem dX3_offerAt_9 : decode cX3_offerAt 9 = .ok (.if_icmp .ge 14, 3) := by decide +kernel
theorem dX3_offerAt_12 : decode cX3_offerAt 12 = .ok (.aload_n 0, 1) := by decide +kernel
theorem dX3_offerAt_13 : decode cX3_offerAt 13 = .ok (.getfield 15, 3) := by decide +kernel
theorem dX3_offerAt_16 : decode cX3_offerAt 16 = .ok (.iload_n 1, 1) := by decide +kernel
theorem dX3_offerAt_17 : decode cX3_offerAt 17 = .ok (.invokestatic 26, 3) := by decide +kernel
theorem dX3_offerAt_20 : decode cX3_offerAt 20 = .ok (.goto 4, 3) := by decide +kernel
theorem dX3_offerAt_23 : decode cX3_offerAt 23 = .ok (.iconst (-1), 1) := by decide +kernel
theorem dX3_offerAt_24 : decode cX3_offerAt 24 = .ok (.ireturn, 1) := by decide +kernel
theorem dX3_placeOf_0 : decode cX3_placeOf 0 = .ok (.iconst 0, 1) := by decide +kernel
theorem dX3_placeOf_1 : decode cX3_placeOf 1 = .ok (.istore_n 2, 1) := by decide +kernel
theorem dX3_placeOf_2 : decode cX3_placeOf 2 = .ok (.iload_n 2, 1) := by decide +kernel
theorem dX3_placeOf_3 : decode cX3_placeOf 3 = .ok (.aload_n 0, 1) := by decide +kernel
theorem dX3_placeOf_4 : decode cX3_placeOf 4 = .ok (.getfield 18, 3) := by decide +kernel
theorem dX3_placeOf_7 : decode cX3_placeOf 7 = .ok (.if_icmp .ge 23, 3) := by decide +kernel
theorem dX3_placeOf_10 : decode cX3_placeOf 10 = .ok (.aload_n 0, 1) := by decide +kernel
theorem dX3_placeOf_11 : decode cX3_placeOf 11 = .ok (.getfield 9, 3) := by decide +kernel
theorem dX3_placeOf_14 : decode cX3_placeOf 14 = .ok (.iload_n 2, 1) := by decide +kernel
theorem dX3_placeOf_15 : decode cX3_placeOf 15 = .ok (.invokestatic 26, 3) := by decide +kernel
theorem dX3_placeOf_18 : decode cX3_placeOf 18 = .ok (.iload_n 1, 1) := by decide +kernel
theorem dX3_placeOf_19 : decode cX3_placeOf 19 = .ok (.if_icmp .ne 5, 3) := by decide +kernel
theorem dX3_placeOf_22 : decode cX3_placeOf 22 = .ok (.iload_n 2, 1) := by decide +kernel
theorem dX3_placeOf_23 : decode cX3_placeOf 23 = .ok (.ireturn, 1) := by decide +kernel
theorem dX3_placeOf_24 : decode cX3_placeOf 24 = .ok (.iinc 2 1, 3) := by decide +kernel
theorem dX3_placeOf_27 : decode cX3_placeOf 27 = .ok (.goto (-25), 3) := by decide +kernel
theorem dX3_placeOf_30 : decode cX3_placeOf 30 = .ok (.iconst (-1), 1) := by decide +kernel
theorem dX3_placeOf_31 : decode cX3_placeOf 31 = .ok (.ireturn, 1) := by decide +kernel
theorem dX3_insert_0 : decode cX3_insert 0 = .ok (.aload_n 0, 1) := by decide +kernel
theorem dX3_insert_1 : decode cX3_insert 1 = .ok (.getfield 18, 3) := by decide +kernel
theorem dX3_insert_4 : decode cX3_insert 4 = .ok (.istore_n 3, 1) := by decide +kernel
theorem dX3_insert_5 : decode cX3_insert 5 = .ok (.iload_n 3, 1) := by decide +kernel
theorem dX3_insert_6 : decode cX3_insert 6 = .ok (.ifCond .le 59, 3) := by decide +kernel
theorem dX3_insert_9 : decode cX3_insert 9 = .ok (.aload_n 0, 1) := by decide +kernel
theorem dX3_insert_10 : decode cX3_insert 10 = .ok (.getfield 15, 3) := by decide +kernel
theorem dX3_insert_13 : decode cX3_insert 13 = .ok (.iload_n 3, 1) := by decide +kernel
theorem dX3_insert_14 : decode cX3_insert 14 = .ok (.iconst 1, 1) := by decide +kernel
theorem dX3_insert_15 : decode cX3_insert 15 = .ok (.isub, 1) := by decide +kernel
theorem dX3_insert_16 : decode cX3_insert 16 = .ok (.invokestatic 26, 3) := by decide +kernel
theorem dX3_insert_19 : decode cX3_insert 19 = .ok (.iload_n 2, 1) := by decide +kernel
theorem dX3_insert_20 : decode cX3_insert 20 = .ok (.if_icmp .ge 45, 3) := by decide +kernel
theorem dX3_insert_23 : decode cX3_insert 23 = .ok (.aload_n 0, 1) := by decide +kernel
theorem dX3_insert_24 : decode cX3_insert 24 = .ok (.getfield 9, 3) := by decide +kernel
theorem dX3_insert_27 : decode cX3_insert 27 = .ok (.iload_n 3, 1) := by decide +kernel
theorem dX3_insert_28 : decode cX3_insert 28 = .ok (.aload_n 0, 1) := by decide +kernel
theorem dX3_insert_29 : decode cX3_insert 29 = .ok (.getfield 9, 3) := by decide +kernel
theorem dX3_insert_32 : decode cX3_insert 32 = .ok (.iload_n 3, 1) := by decide +kernel
theorem dX3_insert_33 : decode cX3_insert 33 = .ok (.iconst 1, 1) := by decide +kernel
theorem dX3_insert_34 : decode cX3_insert 34 = .ok (.isub, 1) := by decide +kernel
theorem dX3_insert_35 : decode cX3_insert 35 = .ok (.invokestatic 26, 3) := by decide +kernel
theorem dX3_insert_38 : decode cX3_insert 38 = .ok (.invokestatic 30, 3) := by decide +kernel
theorem dX3_insert_41 : decode cX3_insert 41 = .ok (.aload_n 0, 1) := by decide +kernel
theorem dX3_insert_42 : decode cX3_insert 42 = .ok (.getfield 15, 3) := by decide +kernel
theorem dX3_insert_45 : decode cX3_insert 45 = .ok (.iload_n 3, 1) := by decide +kernel
theorem dX3_insert_46 : decode cX3_insert 46 = .ok (.aload_n 0, 1) := by decide +kernel
theorem dX3_insert_47 : decode cX3_insert 47 = .ok (.getfield 15, 3) := by decide +kernel
theorem dX3_insert_50 : decode cX3_insert 50 = .ok (.iload_n 3, 1) := by decide +kernel
theorem dX3_insert_51 : decode cX3_insert 51 = .ok (.iconst 1, 1) := by decide +kernel
theorem dX3_insert_52 : decode cX3_insert 52 = .ok (.isub, 1) := by decide +kernel
theorem dX3_insert_53 : decode cX3_insert 53 = .ok (.invokestatic 26, 3) := by decide +kernel
theorem dX3_insert_56 : decode cX3_insert 56 = .ok (.invokestatic 30, 3) := by decide +kernel
theorem dX3_insert_59 : decode cX3_insert 59 = .ok (.iinc 3 (-1), 3) := by decide +kernel
theorem dX3_insert_62 : decode cX3_insert 62 = .ok (.goto (-57), 3) := by decide +kernel
theorem dX3_insert_65 : decode cX3_insert 65 = .ok (.aload_n 0, 1) := by decide +kernel
theorem dX3_insert_66 : decode cX3_insert 66 = .ok (.getfield 9, 3) := by decide +kernel
theorem dX3_insert_69 : decode cX3_insert 69 = .ok (.iload_n 3, 1) := by decide +kernel
theorem dX3_insert_70 : decode cX3_insert 70 = .ok (.iload_n 1, 1) := by decide +kernel
theorem dX3_insert_71 : decode cX3_insert 71 = .ok (.invokestatic 30, 3) := by decide +kernel
theorem dX3_insert_74 : decode cX3_insert 74 = .ok (.aload_n 0, 1) := by decide +kernel
theorem dX3_insert_75 : decode cX3_insert 75 = .ok (.getfield 15, 3) := by decide +kernel
theorem dX3_insert_78 : decode cX3_insert 78 = .ok (.iload_n 3, 1) := by decide +kernel
theorem dX3_insert_79 : decode cX3_insert 79 = .ok (.iload_n 2, 1) := by decide +kernel
theorem dX3_insert_80 : decode cX3_insert 80 = .ok (.invokestatic 30, 3) := by decide +kernel
theorem dX3_insert_83 : decode cX3_insert 83 = .ok (.aload_n 0, 1) := by decide +kernel
theorem dX3_insert_84 : decode cX3_insert 84 = .ok (.dup, 1) := by decide +kernel
theorem dX3_insert_85 : decode cX3_insert 85 = .ok (.getfield 18, 3) := by decide +kernel
theorem dX3_insert_88 : decode cX3_insert 88 = .ok (.iconst 1, 1) := by decide +kernel
theorem dX3_insert_89 : decode cX3_insert 89 = .ok (.iadd, 1) := by decide +kernel
theorem dX3_insert_90 : decode cX3_insert 90 = .ok (.putfield 18, 3) := by decide +kernel
theorem dX3_insert_93 : decode cX3_insert 93 = .ok (.iload_n 3, 1) := by decide +kernel
theorem dX3_insert_94 : decode cX3_insert 94 = .ok (.ireturn, 1) := by decide +kernel
theorem dX3_removeAt_0 : decode cX3_removeAt 0 = .ok (.iload_n 1, 1) := by decide +kernel
theorem dX3_removeAt_1 : decode cX3_removeAt 1 = .ok (.ifCond .lt 11, 3) := by decide +kernel
theorem dX3_removeAt_4 : decode cX3_removeAt 4 = .ok (.iload_n 1, 1) := by decide +kernel
theorem dX3_removeAt_5 : decode cX3_removeAt 5 = .ok (.aload_n 0, 1) := by decide +kernel
theorem dX3_removeAt_6 : decode cX3_removeAt 6 = .ok (.getfield 18, 3) := by decide +kernel
theorem dX3_removeAt_9 : decode cX3_removeAt 9 = .ok (.if_icmp .lt 4, 3) := by decide +kernel
theorem dX3_removeAt_12 : decode cX3_removeAt 12 = .ok (.return_, 1) := by decide +kernel
theorem dX3_removeAt_13 : decode cX3_removeAt 13 = .ok (.aload_n 0, 1) := by decide +kernel
theorem dX3_removeAt_14 : decode cX3_removeAt 14 = .ok (.dup, 1) := by decide +kernel
theorem dX3_removeAt_15 : decode cX3_removeAt 15 = .ok (.getfield 18, 3) := by decide +kernel
theorem dX3_removeAt_18 : decode cX3_removeAt 18 = .ok (.iconst 1, 1) := by decide +kernel
theorem dX3_removeAt_19 : decode cX3_removeAt 19 = .ok (.isub, 1) := by decide +kernel
theorem dX3_removeAt_20 : decode cX3_removeAt 20 = .ok (.putfield 18, 3) := by decide +kernel
theorem dX3_removeAt_23 : decode cX3_removeAt 23 = .ok (.iload_n 1, 1) := by decide +kernel
theorem dX3_removeAt_24 : decode cX3_removeAt 24 = .ok (.istore_n 2, 1) := by decide +kernel
theorem dX3_removeAt_25 : decode cX3_removeAt 25 = .ok (.iload_n 2, 1) := by decide +kernel
theorem dX3_removeAt_26 : decode cX3_removeAt 26 = .ok (.aload_n 0, 1) := by decide +kernel
theorem dX3_removeAt_27 : decode cX3_removeAt 27 = .ok (.getfield 18, 3) := by decide +kernel
theorem dX3_removeAt_30 : decode cX3_removeAt 30 = .ok (.if_icmp .ge 45, 3) := by decide +kernel
theorem dX3_removeAt_33 : decode cX3_removeAt 33 = .ok (.aload_n 0, 1) := by decide +kernel
theorem dX3_removeAt_34 : decode cX3_removeAt 34 = .ok (.getfield 9, 3) := by decide +kernel
theorem dX3_removeAt_37 : decode cX3_removeAt 37 = .ok (.iload_n 2, 1) := by decide +kernel
theorem dX3_removeAt_38 : decode cX3_removeAt 38 = .ok (.aload_n 0, 1) := by decide +kernel
theorem dX3_removeAt_39 : decode cX3_removeAt 39 = .ok (.getfield 9, 3) := by decide +kernel
theorem dX3_removeAt_42 : decode cX3_removeAt 42 = .ok (.iload_n 2, 1) := by decide +kernel
theorem dX3_removeAt_43 : decode cX3_removeAt 43 = .ok (.iconst 1, 1) := by decide +kernel
theorem dX3_removeAt_44 : decode cX3_removeAt 44 = .ok (.iadd, 1) := by decide +kernel
theorem dX3_removeAt_45 : decode cX3_removeAt 45 = .ok (.invokestatic 26, 3) := by decide +kernel
theorem dX3_removeAt_48 : decode cX3_removeAt 48 = .ok (.invokestatic 30, 3) := by decide +kernel
theorem dX3_removeAt_51 : decode cX3_removeAt 51 = .ok (.aload_n 0, 1) := by decide +kernel
theorem dX3_removeAt_52 : decode cX3_removeAt 52 = .ok (.getfield 15, 3) := by decide +kernel
theorem dX3_removeAt_55 : decode cX3_removeAt 55 = .ok (.iload_n 2, 1) := by decide +kernel
theorem dX3_removeAt_56 : decode cX3_removeAt 56 = .ok (.aload_n 0, 1) := by decide +kernel
theorem dX3_removeAt_57 : decode cX3_removeAt 57 = .ok (.getfield 15, 3) := by decide +kernel
theorem dX3_removeAt_60 : decode cX3_removeAt 60 = .ok (.iload_n 2, 1) := by decide +kernel
theorem dX3_removeAt_61 : decode cX3_removeAt 61 = .ok (.iconst 1, 1) := by decide +kernel
theorem dX3_removeAt_62 : decode cX3_removeAt 62 = .ok (.iadd, 1) := by decide +kernel
theorem dX3_removeAt_63 : decode cX3_removeAt 63 = .ok (.invokestatic 26, 3) := by decide +kernel
theorem dX3_removeAt_66 : decode cX3_removeAt 66 = .ok (.invokestatic 30, 3) := by decide +kernel
theorem dX3_removeAt_69 : decode cX3_removeAt 69 = .ok (.iinc 2 1, 3) := by decide +kernel
theorem dX3_removeAt_72 : decode cX3_removeAt 72 = .ok (.goto (-47), 3) := by decide +kernel
theorem dX3_removeAt_75 : decode cX3_removeAt 75 = .ok (.return_, 1) := by decide +kernel
theorem dX4_init_0 : decode cX4_init 0 = .ok (.aload_n 0, 1) := by decide +kernel
theorem dX4_init_1 : decode cX4_init 1 = .ok (.invokespecial 3, 3) := by decide +kernel
theorem dX4_init_4 : decode cX4_init 4 = .ok (.aload_n 0, 1) := by decide +kernel
theorem dX4_init_5 : decode cX4_init 5 = .ok (.bipush 20, 2) := by decide +kernel
theorem dX4_init_7 : decode cX4_init 7 = .ok (.anewarray 9, 3) := by decide +kernel
theorem dX4_init_10 : decode cX4_init 10 = .ok (.putfield 11, 3) := by decide +kernel
theorem dX4_init_13 : decode cX4_init 13 = .ok (.aload_n 0, 1) := by decide +kernel
theorem dX4_init_14 : decode cX4_init 14 = .ok (.bipush 20, 2) := by decide +kernel
theorem dX4_init_16 : decode cX4_init 16 = .ok (.newarray .int, 2) := by decide +kernel
theorem dX4_init_18 : decode cX4_init 18 = .ok (.putfield 17, 3) := by decide +kernel
theorem dX4_init_21 : decode cX4_init 21 = .ok (.aload_n 0, 1) := by decide +kernel
theorem dX4_init_22 : decode cX4_init 22 = .ok (.bipush 20, 2) := by decide +kernel
theorem dX4_init_24 : decode cX4_init 24 = .ok (.newarray .int, 2) := by decide +kernel
theorem dX4_init_26 : decode cX4_init 26 = .ok (.putfield 21, 3) := by decide +kernel
theorem dX4_init_29 : decode cX4_init 29 = .ok (.return_, 1) := by decide +kernel
theorem dX5_init_0 : decode cX5_init 0 = .ok (.aload_n 0, 1) := by decide +kernel
theorem dX5_init_1 : decode cX5_init 1 = .ok (.invokespecial 3, 3) := by decide +kernel
theorem dX5_init_4 : decode cX5_init 4 = .ok (.aload_n 0, 1) := by decide +kernel
theorem dX5_init_5 : decode cX5_init 5 = .ok (.bipush 10, 2) := by decide +kernel
theorem dX5_init_7 : decode cX5_init 7 = .ok (.newarray .int, 2) := by decide +kernel
theorem dX5_init_9 : decode cX5_init 9 = .ok (.putfield 9, 3) := by decide +kernel
theorem dX5_init_12 : decode cX5_init 12 = .ok (.aload_n 0, 1) := by decide +kernel
theorem dX5_init_13 : decode cX5_init 13 = .ok (.bipush 10, 2) := by decide +kernel
theorem dX5_init_15 : decode cX5_init 15 = .ok (.newarray .int, 2) := by decide +kernel
theorem dX5_init_17 : decode cX5_init 17 = .ok (.putfield 15, 3) := by decide +kernel
theorem dX5_init_20 : decode cX5_init 20 = .ok (.aload_n 0, 1) := by decide +kernel
theorem dX5_init_21 : decode cX5_init 21 = .ok (.bipush 10, 2) := by decide +kernel
theorem dX5_init_23 : decode cX5_init 23 = .ok (.newarray .int, 2) := by decide +kernel
theorem dX5_init_25 : decode cX5_init 25 = .ok (.putfield 18, 3) := by decide +kernel
theorem dX5_init_28 : decode cX5_init 28 = .ok (.aload_n 0, 1) := by decide +kernel
theorem dX5_init_29 : decode cX5_init 29 = .ok (.bipush 10, 2) := by decide +kernel
theorem dX5_init_31 : decode cX5_init 31 = .ok (.newarray .int, 2) := by decide +kernel
theorem dX5_init_33 : decode cX5_init 33 = .ok (.putfield 21, 3) := by decide +kernel
theorem dX5_init_36 : decode cX5_init 36 = .ok (.aload_n 0, 1) := by decide +kernel
theorem dX5_init_37 : decode cX5_init 37 = .ok (.bipush 10, 2) := by decide +kernel
theorem dX5_init_39 : decode cX5_init 39 = .ok (.newarray .int, 2) := by decide +kernel
theorem dX5_init_41 : decode cX5_init 41 = .ok (.putfield 24, 3) := by decide +kernel
theorem dX5_init_44 : decode cX5_init 44 = .ok (.aload_n 0, 1) := by decide +kernel
theorem dX5_init_45 : decode cX5_init 45 = .ok (.iconst 4, 1) := by decide +kernel
theorem dX5_init_46 : decode cX5_init 46 = .ok (.newarray .int, 2) := by decide +kernel
theorem dX5_init_48 : decode cX5_init 48 = .ok (.putfield 27, 3) := by decide +kernel
theorem dX5_init_51 : decode cX5_init 51 = .ok (.aload_n 0, 1) := by decide +kernel
theorem dX5_init_52 : decode cX5_init 52 = .ok (.iconst 4, 1) := by decide +kernel
theorem dX5_init_53 : decode cX5_init 53 = .ok (.newarray .int, 2) := by decide +kernel
theorem dX5_init_55 : decode cX5_init 55 = .ok (.putfield 30, 3) := by decide +kernel
theorem dX5_init_58 : decode cX5_init 58 = .ok (.aload_n 0, 1) := by decide +kernel
theorem dX5_init_59 : decode cX5_init 59 = .ok (.iconst 4, 1) := by decide +kernel
theorem dX5_init_60 : decode cX5_init 60 = .ok (.newarray .int, 2) := by decide +kernel
theorem dX5_init_62 : decode cX5_init 62 = .ok (.putfield 33, 3) := by decide +kernel
theorem dX5_init_65 : decode cX5_init 65 = .ok (.return_, 1) := by decide +kernel
theorem dX5_begin_0 : decode cX5_begin 0 = .ok (.aload_n 0, 1) := by decide +kernel
theorem dX5_begin_1 : decode cX5_begin 1 = .ok (.iload_n 1, 1) := by decide +kernel
theorem dX5_begin_2 : decode cX5_begin 2 = .ok (.putfield 36, 3) := by decide +kernel
theorem dX5_begin_5 : decode cX5_begin 5 = .ok (.aload_n 0, 1) := by decide +kernel
theorem dX5_begin_6 : decode cX5_begin 6 = .ok (.iload_n 2, 1) := by decide +kernel
theorem dX5_begin_7 : decode cX5_begin 7 = .ok (.putfield 40, 3) := by decide +kernel
theorem dX5_begin_10 : decode cX5_begin 10 = .ok (.aload_n 0, 1) := by decide +kernel
theorem dX5_begin_11 : decode cX5_begin 11 = .ok (.iload_n 3, 1) := by decide +kernel
theorem dX5_begin_12 : decode cX5_begin 12 = .ok (.putfield 43, 3) := by decide +kernel
theorem dX5_begin_15 : decode cX5_begin 15 = .ok (.aload_n 0, 1) := by decide +kernel
theorem dX5_begin_16 : decode cX5_begin 16 = .ok (.iload 4, 2) := by decide +kernel
theorem dX5_begin_18 : decode cX5_begin 18 = .ok (.putfield 46, 3) := by decide +kernel
theorem dX5_begin_21 : decode cX5_begin 21 = .ok (.aload_n 0, 1) := by decide +kernel
theorem dX5_begin_22 : decode cX5_begin 22 = .ok (.iconst 0, 1) := by decide +kernel
theorem dX5_begin_23 : decode cX5_begin 23 = .ok (.putfield 49, 3) := by decide +kernel
theorem dX5_begin_26 : decode cX5_begin 26 = .ok (.aload_n 0, 1) := by decide +kernel
theorem dX5_begin_27 : decode cX5_begin 27 = .ok (.iconst 0, 1) := by decide +kernel
theorem dX5_begin_28 : decode cX5_begin 28 = .ok (.putfield 52, 3) := by decide +kernel
theorem dX5_begin_31 : decode cX5_begin 31 = .ok (.return_, 1) := by decide +kernel
theorem dX5_addPerson_0 : decode cX5_addPerson 0 = .ok (.aload_n 0, 1) := by decide +kernel
theorem dX5_addPerson_1 : decode cX5_addPerson 1 = .ok (.getfield 9, 3) := by decide +kernel
theorem dX5_addPerson_4 : decode cX5_addPerson 4 = .ok (.aload_n 0, 1) := by decide +kernel
theorem dX5_addPerson_5 : decode cX5_addPerson 5 = .ok (.getfield 49, 3) := by decide +kernel
theorem dX5_addPerson_8 : decode cX5_addPerson 8 = .ok (.iload_n 1, 1) := by decide +kernel
theorem dX5_addPerson_9 : decode cX5_addPerson 9 = .ok (.invokestatic 55, 3) := by decide +kernel
theorem dX5_addPerson_12 : decode cX5_addPerson 12 = .ok (.aload_n 0, 1) := by decide +kernel
theorem dX5_addPerson_13 : decode cX5_addPerson 13 = .ok (.getfield 15, 3) := by decide +kernel
theorem dX5_addPerson_16 : decode cX5_addPerson 16 = .ok (.aload_n 0, 1) := by decide +kernel
theorem dX5_addPerson_17 : decode cX5_addPerson 17 = .ok (.getfield 49, 3) := by decide +kernel
theorem dX5_addPerson_20 : decode cX5_addPerson 20 = .ok (.iload_n 2, 1) := by decide +kernel
theorem dX5_addPerson_21 : decode cX5_addPerson 21 = .ok (.invokestatic 55, 3) := by decide +kernel
theorem dX5_addPerson_24 : decode cX5_addPerson 24 = .ok (.aload_n 0, 1) := by decide +kernel
theorem dX5_addPerson_25 : decode cX5_addPerson 25 = .ok (.getfield 18, 3) := by decide +kernel
theorem dX5_addPerson_28 : decode cX5_addPerson 28 = .ok (.aload_n 0, 1) := by decide +kernel
theorem dX5_addPerson_29 : decode cX5_addPerson 29 = .ok (.getfield 49, 3) := by decide +kernel
theorem dX5_addPerson_32 : decode cX5_addPerson 32 = .ok (.iload_n 3, 1) := by decide +kernel
theorem dX5_addPerson_33 : decode cX5_addPerson 33 = .ok (.invokestatic 55, 3) := by decide +kernel
theorem dX5_addPerson_36 : decode cX5_addPerson 36 = .ok (.aload_n 0, 1) := by decide +kernel
theorem dX5_addPerson_37 : decode cX5_addPerson 37 = .ok (.getfield 21, 3) := by decide +kernel
theorem dX5_addPerson_40 : decode cX5_addPerson 40 = .ok (.aload_n 0, 1) := by decide +kernel
theorem dX5_addPerson_41 : decode cX5_addPerson 41 = .ok (.getfield 49, 3) := by decide +kernel
theorem dX5_addPerson_44 : decode cX5_addPerson 44 = .ok (.iload 4, 2) := by decide +kernel
theorem dX5_addPerson_46 : decode cX5_addPerson 46 = .ok (.invokestatic 55, 3) := by decide +kernel
theorem dX5_addPerson_49 : decode cX5_addPerson 49 = .ok (.aload_n 0, 1) := by decide +kernel
theorem dX5_addPerson_50 : decode cX5_addPerson 50 = .ok (.getfield 24, 3) := by decide +kernel
theorem dX5_addPerson_53 : decode cX5_addPerson 53 = .ok (.aload_n 0, 1) := by decide +kernel
theorem dX5_addPerson_54 : decode cX5_addPerson 54 = .ok (.getfield 49, 3) := by decide +kernel
theorem dX5_addPerson_57 : decode cX5_addPerson 57 = .ok (.iload 5, 2) := by decide +kernel
theorem dX5_addPerson_59 : decode cX5_addPerson 59 = .ok (.invokestatic 55, 3) := by decide +kernel
theorem dX5_addPerson_62 : decode cX5_addPerson 62 = .ok (.aload_n 0, 1) := by decide +kernel
theorem dX5_addPerson_63 : decode cX5_addPerson 63 = .ok (.dup, 1) := by decide +kernel
theorem dX5_addPerson_64 : decode cX5_addPerson 64 = .ok (.getfield 49, 3) := by decide +kernel
theorem dX5_addPerson_67 : decode cX5_addPerson 67 = .ok (.iconst 1, 1) := by decide +kernel
theorem dX5_addPerson_68 : decode cX5_addPerson 68 = .ok (.iadd, 1) := by decide +kernel
theorem dX5_addPerson_69 : decode cX5_addPerson 69 = .ok (.putfield 49, 3) := by decide +kernel
theorem dX5_addPerson_72 : decode cX5_addPerson 72 = .ok (.return_, 1) := by decide +kernel
theorem dX5_addBridge_0 : decode cX5_addBridge 0 = .ok (.aload_n 0, 1) := by decide +kernel
theorem dX5_addBridge_1 : decode cX5_addBridge 1 = .ok (.getfield 27, 3) := by decide +kernel
theorem dX5_addBridge_4 : decode cX5_addBridge 4 = .ok (.aload_n 0, 1) := by decide +kernel
theorem dX5_addBridge_5 : decode cX5_addBridge 5 = .ok (.getfield 52, 3) := by decide +kernel
theorem dX5_addBridge_8 : decode cX5_addBridge 8 = .ok (.iload_n 1, 1) := by decide +kernel
theorem dX5_addBridge_9 : decode cX5_addBridge 9 = .ok (.invokestatic 55, 3) := by decide +kernel
theorem dX5_addBridge_12 : decode cX5_addBridge 12 = .ok (.aload_n 0, 1) := by decide +kernel
theorem dX5_addBridge_13 : decode cX5_addBridge 13 = .ok (.getfield 30, 3) := by decide +kernel
theorem dX5_addBridge_16 : decode cX5_addBridge 16 = .ok (.aload_n 0, 1) := by decide +kernel
theorem dX5_addBridge_17 : decode cX5_addBridge 17 = .ok (.getfield 52, 3) := by decide +kernel
theorem dX5_addBridge_20 : decode cX5_addBridge 20 = .ok (.iload_n 2, 1) := by decide +kernel
theorem dX5_addBridge_21 : decode cX5_addBridge 21 = .ok (.invokestatic 55, 3) := by decide +kernel
theorem dX5_addBridge_24 : decode cX5_addBridge 24 = .ok (.aload_n 0, 1) := by decide +kernel
theorem dX5_addBridge_25 : decode cX5_addBridge 25 = .ok (.getfield 33, 3) := by decide +kernel
theorem dX5_addBridge_28 : decode cX5_addBridge 28 = .ok (.aload_n 0, 1) := by decide +kernel
theorem dX5_addBridge_29 : decode cX5_addBridge 29 = .ok (.getfield 52, 3) := by decide +kernel
theorem dX5_addBridge_32 : decode cX5_addBridge 32 = .ok (.iload_n 3, 1) := by decide +kernel
theorem dX5_addBridge_33 : decode cX5_addBridge 33 = .ok (.invokestatic 55, 3) := by decide +kernel
theorem dX5_addBridge_36 : decode cX5_addBridge 36 = .ok (.aload_n 0, 1) := by decide +kernel
theorem dX5_addBridge_37 : decode cX5_addBridge 37 = .ok (.dup, 1) := by decide +kernel
theorem dX5_addBridge_38 : decode cX5_addBridge 38 = .ok (.getfield 52, 3) := by decide +kernel
theorem dX5_addBridge_41 : decode cX5_addBridge 41 = .ok (.iconst 1, 1) := by decide +kernel
theorem dX5_addBridge_42 : decode cX5_addBridge 42 = .ok (.iadd, 1) := by decide +kernel
theorem dX5_addBridge_43 : decode cX5_addBridge 43 = .ok (.putfield 52, 3) := by decide +kernel
theorem dX5_addBridge_46 : decode cX5_addBridge 46 = .ok (.return_, 1) := by decide +kernel
theorem dX5_copyFrom_0 : decode cX5_copyFrom 0 = .ok (.aload_n 0, 1) := by decide +kernel
theorem dX5_copyFrom_1 : decode cX5_copyFrom 1 = .ok (.aload_n 1, 1) := by decide +kernel
theorem dX5_copyFrom_2 : decode cX5_copyFrom 2 = .ok (.getfield 36, 3) := by decide +kernel
theorem dX5_copyFrom_5 : decode cX5_copyFrom 5 = .ok (.putfield 36, 3) := by decide +kernel
theorem dX5_copyFrom_8 : decode cX5_copyFrom 8 = .ok (.aload_n 0, 1) := by decide +kernel
theorem dX5_copyFrom_9 : decode cX5_copyFrom 9 = .ok (.aload_n 1, 1) := by decide +kernel
theorem dX5_copyFrom_10 : decode cX5_copyFrom 10 = .ok (.getfield 40, 3) := by decide +kernel
theorem dX5_copyFrom_13 : decode cX5_copyFrom 13 = .ok (.putfield 40, 3) := by decide +kernel
theorem dX5_copyFrom_16 : decode cX5_copyFrom 16 = .ok (.aload_n 0, 1) := by decide +kernel
theorem dX5_copyFrom_17 : decode cX5_copyFrom 17 = .ok (.aload_n 1, 1) := by decide +kernel
theorem dX5_copyFrom_18 : decode cX5_copyFrom 18 = .ok (.getfield 43, 3) := by decide +kernel
theorem dX5_copyFrom_21 : decode cX5_copyFrom 21 = .ok (.putfield 43, 3) := by decide +kernel
theorem dX5_copyFrom_24 : decode cX5_copyFrom 24 = .ok (.aload_n 0, 1) := by decide +kernel
theorem dX5_copyFrom_25 : decode cX5_copyFrom 25 = .ok (.aload_n 1, 1) := by decide +kernel
theorem dX5_copyFrom_26 : decode cX5_copyFrom 26 = .ok (.getfield 46, 3) := by decide +kernel
theorem dX5_copyFrom_29 : decode cX5_copyFrom 29 = .ok (.putfield 46, 3) := by decide +kernel
theorem dX5_copyFrom_32 : decode cX5_copyFrom 32 = .ok (.aload_n 0, 1) := by decide +kernel
theorem dX5_copyFrom_33 : decode cX5_copyFrom 33 = .ok (.aload_n 1, 1) := by decide +kernel
theorem dX5_copyFrom_34 : decode cX5_copyFrom 34 = .ok (.getfield 49, 3) := by decide +kernel
theorem dX5_copyFrom_37 : decode cX5_copyFrom 37 = .ok (.putfield 49, 3) := by decide +kernel
theorem dX5_copyFrom_40 : decode cX5_copyFrom 40 = .ok (.aload_n 0, 1) := by decide +kernel
theorem dX5_copyFrom_41 : decode cX5_copyFrom 41 = .ok (.aload_n 1, 1) := by decide +kernel
theorem dX5_copyFrom_42 : decode cX5_copyFrom 42 = .ok (.getfield 52, 3) := by decide +kernel
theorem dX5_copyFrom_45 : decode cX5_copyFrom 45 = .ok (.putfield 52, 3) := by decide +kernel
theorem dX5_copyFrom_48 : decode cX5_copyFrom 48 = .ok (.aload_n 1, 1) := by decide +kernel
theorem dX5_copyFrom_49 : decode cX5_copyFrom 49 = .ok (.getfield 9, 3) := by decide +kernel
theorem dX5_copyFrom_52 : decode cX5_copyFrom 52 = .ok (.aload_n 0, 1) := by decide +kernel
theorem dX5_copyFrom_53 : decode cX5_copyFrom 53 = .ok (.getfield 9, 3) := by decide +kernel
theorem dX5_copyFrom_56 : decode cX5_copyFrom 56 = .ok (.invokestatic 59, 3) := by decide +kernel
theorem dX5_copyFrom_59 : decode cX5_copyFrom 59 = .ok (.aload_n 1, 1) := by decide +kernel
theorem dX5_copyFrom_60 : decode cX5_copyFrom 60 = .ok (.getfield 15, 3) := by decide +kernel
theorem dX5_copyFrom_63 : decode cX5_copyFrom 63 = .ok (.aload_n 0, 1) := by decide +kernel
theorem dX5_copyFrom_64 : decode cX5_copyFrom 64 = .ok (.getfield 15, 3) := by decide +kernel
theorem dX5_copyFrom_67 : decode cX5_copyFrom 67 = .ok (.invokestatic 59, 3) := by decide +kernel
theorem dX5_copyFrom_70 : decode cX5_copyFrom 70 = .ok (.aload_n 1, 1) := by decide +kernel
theorem dX5_copyFrom_71 : decode cX5_copyFrom 71 = .ok (.getfield 18, 3) := by decide +kernel
theorem dX5_copyFrom_74 : decode cX5_copyFrom 74 = .ok (.aload_n 0, 1) := by decide +kernel
theorem dX5_copyFrom_75 : decode cX5_copyFrom 75 = .ok (.getfield 18, 3) := by decide +kernel
theorem dX5_copyFrom_78 : decode cX5_copyFrom 78 = .ok (.invokestatic 59, 3) := by decide +kernel
theorem dX5_copyFrom_81 : decode cX5_copyFrom 81 = .ok (.aload_n 1, 1) := by decide +kernel
theorem dX5_copyFrom_82 : decode cX5_copyFrom 82 = .ok (.getfield 21, 3) := by decide +kernel
theorem dX5_copyFrom_85 : decode cX5_copyFrom 85 = .ok (.aload_n 0, 1) := by decide +kernel
theorem dX5_copyFrom_86 : decode cX5_copyFrom 86 = .ok (.getfield 21, 3) := by decide +kernel
theorem dX5_copyFrom_89 : decode cX5_copyFrom 89 = .ok (.invokestatic 59, 3) := by decide +kernel
theorem dX5_copyFrom_92 : decode cX5_copyFrom 92 = .ok (.aload_n 1, 1) := by decide +kernel
theorem dX5_copyFrom_93 : decode cX5_copyFrom 93 = .ok (.getfield 24, 3) := by decide +kernel
theorem dX5_copyFrom_96 : decode cX5_copyFrom 96 = .ok (.aload_n 0, 1) := by decide +kernel
theorem dX5_copyFrom_97 : decode cX5_copyFrom 97 = .ok (.getfield 24, 3) := by decide +kernel
theorem dX5_copyFrom_100 : decode cX5_copyFrom 100 = .ok (.invokestatic 59, 3) := by decide +kernel
theorem dX5_copyFrom_103 : decode cX5_copyFrom 103 = .ok (.aload_n 1, 1) := by decide +kernel
theorem dX5_copyFrom_104 : decode cX5_copyFrom 104 = .ok (.getfield 27, 3) := by decide +kernel
theorem dX5_copyFrom_107 : decode cX5_copyFrom 107 = .ok (.aload_n 0, 1) := by decide +kernel
theorem dX5_copyFrom_108 : decode cX5_copyFrom 108 = .ok (.getfield 27, 3) := by decide +kernel
theorem dX5_copyFrom_111 : decode cX5_copyFrom 111 = .ok (.invokestatic 59, 3) := by decide +kernel
theorem dX5_copyFrom_114 : decode cX5_copyFrom 114 = .ok (.aload_n 1, 1) := by decide +kernel
theorem dX5_copyFrom_115 : decode cX5_copyFrom 115 = .ok (.getfield 30, 3) := by decide +kernel
theorem dX5_copyFrom_118 : decode cX5_copyFrom 118 = .ok (.aload_n 0, 1) := by decide +kernel
theorem dX5_copyFrom_119 : decode cX5_copyFrom 119 = .ok (.getfield 30, 3) := by decide +kernel
theorem dX5_copyFrom_122 : decode cX5_copyFrom 122 = .ok (.invokestatic 59, 3) := by decide +kernel
theorem dX5_copyFrom_125 : decode cX5_copyFrom 125 = .ok (.aload_n 1, 1) := by decide +kernel
theorem dX5_copyFrom_126 : decode cX5_copyFrom 126 = .ok (.getfield 33, 3) := by decide +kernel
theorem dX5_copyFrom_129 : decode cX5_copyFrom 129 = .ok (.aload_n 0, 1) := by decide +kernel
theorem dX5_copyFrom_130 : decode cX5_copyFrom 130 = .ok (.getfield 33, 3) := by decide +kernel
theorem dX5_copyFrom_133 : decode cX5_copyFrom 133 = .ok (.invokestatic 59, 3) := by decide +kernel
theorem dX5_copyFrom_136 : decode cX5_copyFrom 136 = .ok (.return_, 1) := by decide +kernel
theorem dX5_hasPerson_0 : decode cX5_hasPerson 0 = .ok (.iload_n 1, 1) := by decide +kernel
theorem dX5_hasPerson_1 : decode cX5_hasPerson 1 = .ok (.ifCond .lt 15, 3) := by decide +kernel
theorem dX5_hasPerson_4 : decode cX5_hasPerson 4 = .ok (.iload_n 1, 1) := by decide +kernel
theorem dX5_hasPerson_5 : decode cX5_hasPerson 5 = .ok (.aload_n 0, 1) := by decide +kernel
theorem dX5_hasPerson_6 : decode cX5_hasPerson 6 = .ok (.getfield 49, 3) := by decide +kernel
theorem dX5_hasPerson_9 : decode cX5_hasPerson 9 = .ok (.if_icmp .ge 7, 3) := by decide +kernel
theorem dX5_hasPerson_12 : decode cX5_hasPerson 12 = .ok (.iconst 1, 1) := by decide +kernel
theorem dX5_hasPerson_13 : decode cX5_hasPerson 13 = .ok (.goto 4, 3) := by decide +kernel
theorem dX5_hasPerson_16 : decode cX5_hasPerson 16 = .ok (.iconst 0, 1) := by decide +kernel
theorem dX5_hasPerson_17 : decode cX5_hasPerson 17 = .ok (.ireturn, 1) := by decide +kernel
theorem dX5_hasKing_0 : decode cX5_hasKing 0 = .ok (.aload_n 0, 1) := by decide +kernel
theorem dX5_hasKing_1 : decode cX5_hasKing 1 = .ok (.iload_n 1, 1) := by decide +kernel
theorem dX5_hasKing_2 : decode cX5_hasKing 2 = .ok (.invokevirtual 63, 3) := by decide +kernel
theorem dX5_hasKing_5 : decode cX5_hasKing 5 = .ok (.ifCond .eq 19, 3) := by decide +kernel
theorem dX5_hasKing_8 : decode cX5_hasKing 8 = .ok (.aload_n 0, 1) := by decide +kernel
theorem dX5_hasKing_9 : decode cX5_hasKing 9 = .ok (.getfield 9, 3) := by decide +kernel
theorem dX5_hasKing_12 : decode cX5_hasKing 12 = .ok (.iload_n 1, 1) := by decide +kernel
theorem dX5_hasKing_13 : decode cX5_hasKing 13 = .ok (.invokestatic 67, 3) := by decide +kernel
theorem dX5_hasKing_16 : decode cX5_hasKing 16 = .ok (.iconst 1, 1) := by decide +kernel
theorem dX5_hasKing_17 : decode cX5_hasKing 17 = .ok (.if_icmp .ne 7, 3) := by decide +kernel
theorem dX5_hasKing_20 : decode cX5_hasKing 20 = .ok (.iconst 1, 1) := by decide +kernel
theorem dX5_hasKing_21 : decode cX5_hasKing 21 = .ok (.goto 4, 3) := by decide +kernel
theorem dX5_hasKing_24 : decode cX5_hasKing 24 = .ok (.iconst 0, 1) := by decide +kernel
theorem dX5_hasKing_25 : decode cX5_hasKing 25 = .ok (.ireturn, 1) := by decide +kernel
theorem dX5_kingsInAll_0 : decode cX5_kingsInAll 0 = .ok (.iconst 0, 1) := by decide +kernel
theorem dX5_kingsInAll_1 : decode cX5_kingsInAll 1 = .ok (.istore_n 1, 1) := by decide +kernel
theorem dX5_kingsInAll_2 : decode cX5_kingsInAll 2 = .ok (.iconst 0, 1) := by decide +kernel
theorem dX5_kingsInAll_3 : decode cX5_kingsInAll 3 = .ok (.istore_n 2, 1) := by decide +kernel
theorem dX5_kingsInAll_4 : decode cX5_kingsInAll 4 = .ok (.iload_n 2, 1) := by decide +kernel
theorem dX5_kingsInAll_5 : decode cX5_kingsInAll 5 = .ok (.aload_n 0, 1) := by decide +kernel
theorem dX5_kingsInAll_6 : decode cX5_kingsInAll 6 = .ok (.getfield 49, 3) := by decide +kernel
theorem dX5_kingsInAll_9 : decode cX5_kingsInAll 9 = .ok (.if_icmp .ge 20, 3) := by decide +kernel
theorem dX5_kingsInAll_12 : decode cX5_kingsInAll 12 = .ok (.iload_n 1, 1) := by decide +kernel
theorem dX5_kingsInAll_13 : decode cX5_kingsInAll 13 = .ok (.aload_n 0, 1) := by decide +kernel
theorem dX5_kingsInAll_14 : decode cX5_kingsInAll 14 = .ok (.getfield 9, 3) := by decide +kernel
theorem dX5_kingsInAll_17 : decode cX5_kingsInAll 17 = .ok (.iload_n 2, 1) := by decide +kernel
theorem dX5_kingsInAll_18 : decode cX5_kingsInAll 18 = .ok (.invokestatic 67, 3) := by decide +kernel
theorem dX5_kingsInAll_21 : decode cX5_kingsInAll 21 = .ok (.iadd, 1) := by decide +kernel
theorem dX5_kingsInAll_22 : decode cX5_kingsInAll 22 = .ok (.istore_n 1, 1) := by decide +kernel
theorem dX5_kingsInAll_23 : decode cX5_kingsInAll 23 = .ok (.iinc 2 1, 3) := by decide +kernel
theorem dX5_kingsInAll_26 : decode cX5_kingsInAll 26 = .ok (.goto (-22), 3) := by decide +kernel
theorem dX5_kingsInAll_29 : decode cX5_kingsInAll 29 = .ok (.iload_n 1, 1) := by decide +kernel
theorem dX5_kingsInAll_30 : decode cX5_kingsInAll 30 = .ok (.ireturn, 1) := by decide +kernel
theorem dX5_coinsInAll_0 : decode cX5_coinsInAll 0 = .ok (.iconst 0, 1) := by decide +kernel
theorem dX5_coinsInAll_1 : decode cX5_coinsInAll 1 = .ok (.istore_n 1, 1) := by decide +kernel
theorem dX5_coinsInAll_2 : decode cX5_coinsInAll 2 = .ok (.iconst 0, 1) := by decide +kernel
theorem dX5_coinsInAll_3 : decode cX5_coinsInAll 3 = .ok (.istore_n 2, 1) := by decide +kernel
theorem dX5_coinsInAll_4 : decode cX5_coinsInAll 4 = .ok (.iload_n 2, 1) := by decide +kernel
theorem dX5_coinsInAll_5 : decode cX5_coinsInAll 5 = .ok (.aload_n 0, 1) := by decide +kernel
theorem dX5_coinsInAll_6 : decode cX5_coinsInAll 6 = .ok (.getfield 49, 3) := by decide +kernel
theorem dX5_coinsInAll_9 : decode cX5_coinsInAll 9 = .ok (.if_icmp .ge 20, 3) := by decide +kernel
theorem dX5_coinsInAll_12 : decode cX5_coinsInAll 12 = .ok (.iload_n 1, 1) := by decide +kernel
theorem dX5_coinsInAll_13 : decode cX5_coinsInAll 13 = .ok (.aload_n 0, 1) := by decide +kernel
theorem dX5_coinsInAll_14 : decode cX5_coinsInAll 14 = .ok (.getfield 18, 3) := by decide +kernel
theorem dX5_coinsInAll_17 : decode cX5_coinsInAll 17 = .ok (.iload_n 2, 1) := by decide +kernel
theorem dX5_coinsInAll_18 : decode cX5_coinsInAll 18 = .ok (.invokestatic 67, 3) := by decide +kernel
theorem dX5_coinsInAll_21 : decode cX5_coinsInAll 21 = .ok (.iadd, 1) := by decide +kernel
theorem dX5_coinsInAll_22 : decode cX5_coinsInAll 22 = .ok (.istore_n 1, 1) := by decide +kernel
theorem dX5_coinsInAll_23 : decode cX5_coinsInAll 23 = .ok (.iinc 2 1, 3) := by decide +kernel
theorem dX5_coinsInAll_26 : decode cX5_coinsInAll 26 = .ok (.goto (-22), 3) := by decide +kernel
theorem dX5_coinsInAll_29 : decode cX5_coinsInAll 29 = .ok (.iload_n 1, 1) := by decide +kernel
theorem dX5_coinsInAll_30 : decode cX5_coinsInAll 30 = .ok (.ireturn, 1) := by decide +kernel
theorem dX5_tollFor_0 : decode cX5_tollFor 0 = .ok (.iload_n 1, 1) := by decide +kernel
theorem dX5_tollFor_1 : decode cX5_tollFor 1 = .ok (.ifCond .eq 10, 3) := by decide +kernel
theorem dX5_tollFor_4 : decode cX5_tollFor 4 = .ok (.aload_n 0, 1) := by decide +kernel
theorem dX5_tollFor_5 : decode cX5_tollFor 5 = .ok (.getfield 43, 3) := by decide +kernel
theorem dX5_tollFor_8 : decode cX5_tollFor 8 = .ok (.goto 7, 3) := by decide +kernel
theorem dX5_tollFor_11 : decode cX5_tollFor 11 = .ok (.aload_n 0, 1) := by decide +kernel
theorem dX5_tollFor_12 : decode cX5_tollFor 12 = .ok (.getfield 46, 3) := by decide +kernel
theorem dX5_tollFor_15 : decode cX5_tollFor 15 = .ok (.ireturn, 1) := by decide +kernel
theorem dX5_opens_0 : decode cX5_opens 0 = .ok (.aload_n 0, 1) := by decide +kernel
theorem dX5_opens_1 : decode cX5_opens 1 = .ok (.getfield 27, 3) := by decide +kernel
theorem dX5_opens_4 : decode cX5_opens 4 = .ok (.iload_n 1, 1) := by decide +kernel
theorem dX5_opens_5 : decode cX5_opens 5 = .ok (.invokestatic 67, 3) := by decide +kernel
theorem dX5_opens_8 : decode cX5_opens 8 = .ok (.istore_n 3, 1) := by decide +kernel
theorem dX5_opens_9 : decode cX5_opens 9 = .ok (.iload_n 3, 1) := by decide +kernel
theorem dX5_opens_10 : decode cX5_opens 10 = .ok (.ifCond .le 21, 3) := by decide +kernel
theorem dX5_opens_13 : decode cX5_opens 13 = .ok (.iload_n 2, 1) := by decide +kernel
theorem dX5_opens_14 : decode cX5_opens 14 = .ok (.iload_n 3, 1) := by decide +kernel
theorem dX5_opens_15 : decode cX5_opens 15 = .ok (.irem, 1) := by decide +kernel
theorem dX5_opens_16 : decode cX5_opens 16 = .ok (.aload_n 0, 1) := by decide +kernel
theorem dX5_opens_17 : decode cX5_opens 17 = .ok (.getfield 30, 3) := by decide +kernel
theorem dX5_opens_20 : decode cX5_opens 20 = .ok (.iload_n 1, 1) := by decide +kernel
theorem dX5_opens_21 : decode cX5_opens 21 = .ok (.invokestatic 67, 3) := by decide +kernel
theorem dX5_opens_24 : decode cX5_opens 24 = .ok (.if_icmp .ne 7, 3) := by decide +kernel
theorem dX5_opens_27 : decode cX5_opens 27 = .ok (.iconst 1, 1) := by decide +kernel
theorem dX5_opens_28 : decode cX5_opens 28 = .ok (.goto 4, 3) := by decide +kernel
theorem dX5_opens_31 : decode cX5_opens 31 = .ok (.iconst 0, 1) := by decide +kernel
theorem dX5_opens_32 : decode cX5_opens 32 = .ok (.ireturn, 1) := by decide +kernel
theorem dX6_init_0 : decode cX6_init 0 = .ok (.aload_n 0, 1) := by decide +kernel
theorem dX6_init_1 : decode cX6_init 1 = .ok (.invokespecial 3, 3) := by decide +kernel
theorem dX6_init_4 : decode cX6_init 4 = .ok (.aload_n 0, 1) := by decide +kernel
theorem dX6_init_5 : decode cX6_init 5 = .ok (.sipush 500, 3) := by decide +kernel
theorem dX6_init_8 : decode cX6_init 8 = .ok (.newarray .int, 2) := by decide +kernel
theorem dX6_init_10 : decode cX6_init 10 = .ok (.putfield 9, 3) := by decide +kernel
theorem dX6_init_13 : decode cX6_init 13 = .ok (.aload_n 0, 1) := by decide +kernel
theorem dX6_init_14 : decode cX6_init 14 = .ok (.iconst (-1), 1) := by decide +kernel
theorem dX6_init_15 : decode cX6_init 15 = .ok (.putfield 15, 3) := by decide +kernel
theorem dX6_init_18 : decode cX6_init 18 = .ok (.return_, 1) := by decide +kernel
theorem dX6_appendWord_0 : decode cX6_appendWord 0 = .ok (.bipush 24, 2) := by decide +kernel
theorem dX6_appendWord_2 : decode cX6_appendWord 2 = .ok (.istore_n 2, 1) := by decide +kernel
theorem dX6_appendWord_3 : decode cX6_appendWord 3 = .ok (.iload_n 2, 1) := by decide +kernel
theorem dX6_appendWord_4 : decode cX6_appendWord 4 = .ok (.ifCond .lt 37, 3) := by decide +kernel
theorem dX6_appendWord_7 : decode cX6_appendWord 7 = .ok (.aload_n 0, 1) := by decide +kernel
theorem dX6_appendWord_8 : decode cX6_appendWord 8 = .ok (.getfield 9, 3) := by decide +kernel
theorem dX6_appendWord_11 : decode cX6_appendWord 11 = .ok (.aload_n 0, 1) := by decide +kernel
theorem dX6_appendWord_12 : decode cX6_appendWord 12 = .ok (.getfield 19, 3) := by decide +kernel
theorem dX6_appendWord_15 : decode cX6_appendWord 15 = .ok (.iload_n 1, 1) := by decide +kernel
theorem dX6_appendWord_16 : decode cX6_appendWord 16 = .ok (.iload_n 2, 1) := by decide +kernel
theorem dX6_appendWord_17 : decode cX6_appendWord 17 = .ok (.iushr, 1) := by decide +kernel
theorem dX6_appendWord_18 : decode cX6_appendWord 18 = .ok (.sipush 255, 3) := by decide +kernel
theorem dX6_appendWord_21 : decode cX6_appendWord 21 = .ok (.iand, 1) := by decide +kernel
theorem dX6_appendWord_22 : decode cX6_appendWord 22 = .ok (.invokestatic 22, 3) := by decide +kernel
theorem dX6_appendWord_25 : decode cX6_appendWord 25 = .ok (.aload_n 0, 1) := by decide +kernel
theorem dX6_appendWord_26 : decode cX6_appendWord 26 = .ok (.dup, 1) := by decide +kernel
theorem dX6_appendWord_27 : decode cX6_appendWord 27 = .ok (.getfield 19, 3) := by decide +kernel
theorem dX6_appendWord_30 : decode cX6_appendWord 30 = .ok (.iconst 1, 1) := by decide +kernel
theorem dX6_appendWord_31 : decode cX6_appendWord 31 = .ok (.iadd, 1) := by decide +kernel
theorem dX6_appendWord_32 : decode cX6_appendWord 32 = .ok (.putfield 19, 3) := by decide +kernel
theorem dX6_appendWord_35 : decode cX6_appendWord 35 = .ok (.iinc 2 (-8), 3) := by decide +kernel
theorem dX6_appendWord_38 : decode cX6_appendWord 38 = .ok (.goto (-35), 3) := by decide +kernel
theorem dX6_appendWord_41 : decode cX6_appendWord 41 = .ok (.return_, 1) := by decide +kernel
theorem dX6_open_0 : decode cX6_open 0 = .ok (.aload_n 0, 1) := by decide +kernel
theorem dX6_open_1 : decode cX6_open 1 = .ok (.iconst 0, 1) := by decide +kernel
theorem dX6_open_2 : decode cX6_open 2 = .ok (.putfield 26, 3) := by decide +kernel
theorem dX6_open_5 : decode cX6_open 5 = .ok (.aload_n 0, 1) := by decide +kernel
theorem dX6_open_6 : decode cX6_open 6 = .ok (.iconst (-1), 1) := by decide +kernel
theorem dX6_open_7 : decode cX6_open 7 = .ok (.putfield 15, 3) := by decide +kernel
theorem dX6_open_10 : decode cX6_open 10 = .ok (.aload_n 0, 1) := by decide +kernel
theorem dX6_open_11 : decode cX6_open 11 = .ok (.iload_n 1, 1) := by decide +kernel
theorem dX6_open_12 : decode cX6_open 12 = .ok (.putfield 29, 3) := by decide +kernel
theorem dX6_open_15 : decode cX6_open 15 = .ok (.aload_n 0, 1) := by decide +kernel
theorem dX6_open_16 : decode cX6_open 16 = .ok (.iconst 0, 1) := by decide +kernel
theorem dX6_open_17 : decode cX6_open 17 = .ok (.putfield 32, 3) := by decide +kernel
theorem dX6_open_20 : decode cX6_open 20 = .ok (.aload_n 0, 1) := by decide +kernel
theorem dX6_open_21 : decode cX6_open 21 = .ok (.invokevirtual 35, 3) := by decide +kernel
theorem dX6_open_24 : decode cX6_open 24 = .ok (.return_, 1) := by decide +kernel
theorem dX6_hasFailed_0 : decode cX6_hasFailed 0 = .ok (.aload_n 0, 1) := by decide +kernel
theorem dX6_hasFailed_1 : decode cX6_hasFailed 1 = .ok (.getfield 26, 3) := by decide +kernel
theorem dX6_hasFailed_4 : decode cX6_hasFailed 4 = .ok (.ifCond .eq 7, 3) := by decide +kernel
theorem dX6_hasFailed_7 : decode cX6_hasFailed 7 = .ok (.iconst 1, 1) := by decide +kernel
theorem dX6_hasFailed_8 : decode cX6_hasFailed 8 = .ok (.goto 4, 3) := by decide +kernel
theorem dX6_hasFailed_11 : decode cX6_hasFailed 11 = .ok (.iconst 0, 1) := by decide +kernel
theorem dX6_hasFailed_12 : decode cX6_hasFailed 12 = .ok (.ireturn, 1) := by decide +kernel
theorem dX6_fail_0 : decode cX6_fail 0 = .ok (.aload_n 0, 1) := by decide +kernel
theorem dX6_fail_1 : decode cX6_fail 1 = .ok (.getfield 26, 3) := by decide +kernel
theorem dX6_fail_4 : decode cX6_fail 4 = .ok (.ifCond .ne 16, 3) := by decide +kernel
theorem dX6_fail_7 : decode cX6_fail 7 = .ok (.aload_n 0, 1) := by decide +kernel
theorem dX6_fail_8 : decode cX6_fail 8 = .ok (.iload_n 1, 1) := by decide +kernel
theorem dX6_fail_9 : decode cX6_fail 9 = .ok (.putfield 26, 3) := by decide +kernel
theorem dX6_fail_12 : decode cX6_fail 12 = .ok (.aload_n 0, 1) := by decide +kernel
theorem dX6_fail_13 : decode cX6_fail 13 = .ok (.aload_n 0, 1) := by decide +kernel
theorem dX6_fail_14 : decode cX6_fail 14 = .ok (.getfield 38, 3) := by decide +kernel
theorem dX6_fail_17 : decode cX6_fail 17 = .ok (.putfield 15, 3) := by decide +kernel
theorem dX6_fail_20 : decode cX6_fail 20 = .ok (.return_, 1) := by decide +kernel
theorem dX6_isAtEnd_0 : decode cX6_isAtEnd 0 = .ok (.aload_n 0, 1) := by decide +kernel
theorem dX6_isAtEnd_1 : decode cX6_isAtEnd 1 = .ok (.getfield 26, 3) := by decide +kernel
theorem dX6_isAtEnd_4 : decode cX6_isAtEnd 4 = .ok (.ifCond .ne 14, 3) := by decide +kernel
theorem dX6_isAtEnd_7 : decode cX6_isAtEnd 7 = .ok (.aload_n 0, 1) := by decide +kernel
theorem dX6_isAtEnd_8 : decode cX6_isAtEnd 8 = .ok (.getfield 41, 3) := by decide +kernel
theorem dX6_isAtEnd_11 : decode cX6_isAtEnd 11 = .ok (.ifCond .ne 7, 3) := by decide +kernel
theorem dX6_isAtEnd_14 : decode cX6_isAtEnd 14 = .ok (.iconst 1, 1) := by decide +kernel
theorem dX6_isAtEnd_15 : decode cX6_isAtEnd 15 = .ok (.goto 4, 3) := by decide +kernel
theorem dX6_isAtEnd_18 : decode cX6_isAtEnd 18 = .ok (.iconst 0, 1) := by decide +kernel
theorem dX6_isAtEnd_19 : decode cX6_isAtEnd 19 = .ok (.ireturn, 1) := by decide +kernel
theorem dX6_isAtWord_0 : decode cX6_isAtWord 0 = .ok (.aload_n 0, 1) := by decide +kernel
theorem dX6_isAtWord_1 : decode cX6_isAtWord 1 = .ok (.getfield 26, 3) := by decide +kernel
theorem dX6_isAtWord_4 : decode cX6_isAtWord 4 = .ok (.ifCond .ne 27, 3) := by decide +kernel
theorem dX6_isAtWord_7 : decode cX6_isAtWord 7 = .ok (.aload_n 0, 1) := by decide +kernel
theorem dX6_isAtWord_8 : decode cX6_isAtWord 8 = .ok (.getfield 41, 3) := by decide +kernel
theorem dX6_isAtWord_11 : decode cX6_isAtWord 11 = .ok (.iconst 1, 1) := by decide +kernel
theorem dX6_isAtWord_12 : decode cX6_isAtWord 12 = .ok (.if_icmp .ne 19, 3) := by decide +kernel
theorem dX6_isAtWord_15 : decode cX6_isAtWord 15 = .ok (.aload_n 0, 1) := by decide +kernel
theorem dX6_isAtWord_16 : decode cX6_isAtWord 16 = .ok (.getfield 32, 3) := by decide +kernel
theorem dX6_isAtWord_19 : decode cX6_isAtWord 19 = .ok (.aload_n 0, 1) := by decide +kernel
theorem dX6_isAtWord_20 : decode cX6_isAtWord 20 = .ok (.getfield 38, 3) := by decide +kernel
theorem dX6_isAtWord_23 : decode cX6_isAtWord 23 = .ok (.isub, 1) := by decide +kernel
theorem dX6_isAtWord_24 : decode cX6_isAtWord 24 = .ok (.aload_n 1, 1) := by decide +kernel
theorem dX6_isAtWord_25 : decode cX6_isAtWord 25 = .ok (.invokevirtual 44, 3) := by decide +kernel
theorem dX6_isAtWord_28 : decode cX6_isAtWord 28 = .ok (.if_icmp .eq 5, 3) := by decide +kernel
theorem dX6_isAtWord_31 : decode cX6_isAtWord 31 = .ok (.iconst 0, 1) := by decide +kernel
theorem dX6_isAtWord_32 : decode cX6_isAtWord 32 = .ok (.ireturn, 1) := by decide +kernel
theorem dX6_isAtWord_33 : decode cX6_isAtWord 33 = .ok (.iconst 0, 1) := by decide +kernel
theorem dX6_isAtWord_34 : decode cX6_isAtWord 34 = .ok (.istore_n 2, 1) := by decide +kernel
theorem dX6_isAtWord_35 : decode cX6_isAtWord 35 = .ok (.iload_n 2, 1) := by decide +kernel
theorem dX6_isAtWord_36 : decode cX6_isAtWord 36 = .ok (.aload_n 1, 1) := by decide +kernel
theorem dX6_isAtWord_37 : decode cX6_isAtWord 37 = .ok (.invokevirtual 44, 3) := by decide +kernel
theorem dX6_isAtWord_40 : decode cX6_isAtWord 40 = .ok (.if_icmp .ge 32, 3) := by decide +kernel
theorem dX6_isAtWord_43 : decode cX6_isAtWord 43 = .ok (.aload_n 0, 1) := by decide +kernel
theorem dX6_isAtWord_44 : decode cX6_isAtWord 44 = .ok (.getfield 9, 3) := by decide +kernel
theorem dX6_isAtWord_47 : decode cX6_isAtWord 47 = .ok (.aload_n 0, 1) := by decide +kernel
theorem dX6_isAtWord_48 : decode cX6_isAtWord 48 = .ok (.getfield 38, 3) := by decide +kernel
theorem dX6_isAtWord_51 : decode cX6_isAtWord 51 = .ok (.iload_n 2, 1) := by decide +kernel
theorem dX6_isAtWord_52 : decode cX6_isAtWord 52 = .ok (.iadd, 1) := by decide +kernel
theorem dX6_isAtWord_53 : decode cX6_isAtWord 53 = .ok (.invokestatic 50, 3) := by decide +kernel
theorem dX6_isAtWord_56 : decode cX6_isAtWord 56 = .ok (.aload_n 1, 1) := by decide +kernel
theorem dX6_isAtWord_57 : decode cX6_isAtWord 57 = .ok (.iload_n 2, 1) := by decide +kernel
theorem dX6_isAtWord_58 : decode cX6_isAtWord 58 = .ok (.invokevirtual 54, 3) := by decide +kernel
theorem dX6_isAtWord_61 : decode cX6_isAtWord 61 = .ok (.if_icmp .eq 5, 3) := by decide +kernel
theorem dX6_isAtWord_64 : decode cX6_isAtWord 64 = .ok (.iconst 0, 1) := by decide +kernel
theorem dX6_isAtWord_65 : decode cX6_isAtWord 65 = .ok (.ireturn, 1) := by decide +kernel
theorem dX6_isAtWord_66 : decode cX6_isAtWord 66 = .ok (.iinc 2 1, 3) := by decide +kernel
theorem dX6_isAtWord_69 : decode cX6_isAtWord 69 = .ok (.goto (-34), 3) := by decide +kernel
theorem dX6_isAtWord_72 : decode cX6_isAtWord 72 = .ok (.iconst 1, 1) := by decide +kernel
theorem dX6_isAtWord_73 : decode cX6_isAtWord 73 = .ok (.ireturn, 1) := by decide +kernel
theorem dX6_takeWord_0 : decode cX6_takeWord 0 = .ok (.aload_n 0, 1) := by decide +kernel
theorem dX6_takeWord_1 : decode cX6_takeWord 1 = .ok (.aload_n 1, 1) := by decide +kernel
theorem dX6_takeWord_2 : decode cX6_takeWord 2 = .ok (.invokevirtual 58, 3) := by decide +kernel
theorem dX6_takeWord_5 : decode cX6_takeWord 5 = .ok (.ifCond .eq 10, 3) := by decide +kernel
theorem dX6_takeWord_8 : decode cX6_takeWord 8 = .ok (.aload_n 0, 1) := by decide +kernel
theorem dX6_takeWord_9 : decode cX6_takeWord 9 = .ok (.invokevirtual 35, 3) := by decide +kernel
theorem dX6_takeWord_12 : decode cX6_takeWord 12 = .ok (.goto 8, 3) := by decide +kernel
theorem dX6_takeWord_15 : decode cX6_takeWord 15 = .ok (.aload_n 0, 1) := by decide +kernel
theorem dX6_takeWord_16 : decode cX6_takeWord 16 = .ok (.iconst 1, 1) := by decide +kernel
theorem dX6_takeWord_17 : decode cX6_takeWord 17 = .ok (.invokevirtual 62, 3) := by decide +kernel
theorem dX6_takeWord_20 : decode cX6_takeWord 20 = .ok (.return_, 1) := by decide +kernel
theorem dX6_takeEither_0 : decode cX6_takeEither 0 = .ok (.aload_n 0, 1) := by decide +kernel
theorem dX6_takeEither_1 : decode cX6_takeEither 1 = .ok (.aload_n 2, 1) := by decide +kernel
theorem dX6_takeEither_2 : decode cX6_takeEither 2 = .ok (.invokevirtual 58, 3) := by decide +kernel
theorem dX6_takeEither_5 : decode cX6_takeEither 5 = .ok (.istore_n 3, 1) := by decide +kernel
theorem dX6_takeEither_6 : decode cX6_takeEither 6 = .ok (.iload_n 3, 1) := by decide +kernel
theorem dX6_takeEither_7 : decode cX6_takeEither 7 = .ok (.ifCond .ne 11, 3) := by decide +kernel
theorem dX6_takeEither_10 : decode cX6_takeEither 10 = .ok (.aload_n 0, 1) := by decide +kernel
theorem dX6_takeEither_11 : decode cX6_takeEither 11 = .ok (.aload_n 1, 1) := by decide +kernel
theorem dX6_takeEither_12 : decode cX6_takeEither 12 = .ok (.invokevirtual 58, 3) := by decide +kernel
theorem dX6_takeEither_15 : decode cX6_takeEither 15 = .ok (.ifCond .eq 10, 3) := by decide +kernel
theorem dX6_takeEither_18 : decode cX6_takeEither 18 = .ok (.aload_n 0, 1) := by decide +kernel
theorem dX6_takeEither_19 : decode cX6_takeEither 19 = .ok (.invokevirtual 35, 3) := by decide +kernel
theorem dX6_takeEither_22 : decode cX6_takeEither 22 = .ok (.goto 8, 3) := by decide +kernel
theorem dX6_takeEither_25 : decode cX6_takeEither 25 = .ok (.aload_n 0, 1) := by decide +kernel
theorem dX6_takeEither_26 : decode cX6_takeEither 26 = .ok (.iconst 1, 1) := by decide +kernel
theorem dX6_takeEither_27 : decode cX6_takeEither 27 = .ok (.invokevirtual 62, 3) := by decide +kernel
theorem dX6_takeEither_30 : decode cX6_takeEither 30 = .ok (.iload_n 3, 1) := by decide +kernel
theorem dX6_takeEither_31 : decode cX6_takeEither 31 = .ok (.ifCond .eq 7, 3) := by decide +kernel
theorem dX6_takeEither_34 : decode cX6_takeEither 34 = .ok (.iconst 1, 1) := by decide +kernel
theorem dX6_takeEither_35 : decode cX6_takeEither 35 = .ok (.goto 4, 3) := by decide +kernel
theorem dX6_takeEither_38 : decode cX6_takeEither 38 = .ok (.iconst 0, 1) := by decide +kernel
theorem dX6_takeEither_39 : decode cX6_takeEither 39 = .ok (.ireturn, 1) := by decide +kernel
theorem dX6_takeSemicolon_0 : decode cX6_takeSemicolon 0 = .ok (.aload_n 0, 1) := by decide +kernel
theorem dX6_takeSemicolon_1 : decode cX6_takeSemicolon 1 = .ok (.getfield 41, 3) := by decide +kernel
theorem dX6_takeSemicolon_4 : decode cX6_takeSemicolon 4 = .ok (.iconst 3, 1) := by decide +kernel
theorem dX6_takeSemicolon_5 : decode cX6_takeSemicolon 5 = .ok (.if_icmp .ne 10, 3) := by decide +kernel
theorem dX6_takeSemicolon_8 : decode cX6_takeSemicolon 8 = .ok (.aload_n 0, 1) := by decide +kernel
theorem dX6_takeSemicolon_9 : decode cX6_takeSemicolon 9 = .ok (.invokevirtual 35, 3) := by decide +kernel
theorem dX6_takeSemicolon_12 : decode cX6_takeSemicolon 12 = .ok (.goto 8, 3) := by decide +kernel
theorem dX6_takeSemicolon_15 : decode cX6_takeSemicolon 15 = .ok (.aload_n 0, 1) := by decide +kernel
theorem dX6_takeSemicolon_16 : decode cX6_takeSemicolon 16 = .ok (.iconst 1, 1) := by decide +kernel
theorem dX6_takeSemicolon_17 : decode cX6_takeSemicolon 17 = .ok (.invokevirtual 62, 3) := by decide +kernel
theorem dX6_takeSemicolon_20 : decode cX6_takeSemicolon 20 = .ok (.return_, 1) := by decide +kernel
theorem dX6_takeNumber_0 : decode cX6_takeNumber 0 = .ok (.aload_n 0, 1) := by decide +kernel
theorem dX6_takeNumber_1 : decode cX6_takeNumber 1 = .ok (.getfield 66, 3) := by decide +kernel
theorem dX6_takeNumber_4 : decode cX6_takeNumber 4 = .ok (.istore_n 3, 1) := by decide +kernel
theorem dX6_takeNumber_5 : decode cX6_takeNumber 5 = .ok (.aload_n 0, 1) := by decide +kernel
theorem dX6_takeNumber_6 : decode cX6_takeNumber 6 = .ok (.getfield 41, 3) := by decide +kernel
theorem dX6_takeNumber_9 : decode cX6_takeNumber 9 = .ok (.iconst 2, 1) := by decide +kernel
theorem dX6_takeNumber_10 : decode cX6_takeNumber 10 = .ok (.if_icmp .eq 11, 3) := by decide +kernel
theorem dX6_takeNumber_13 : decode cX6_takeNumber 13 = .ok (.aload_n 0, 1) := by decide +kernel
theorem dX6_takeNumber_14 : decode cX6_takeNumber 14 = .ok (.iconst 1, 1) := by decide +kernel
theorem dX6_takeNumber_15 : decode cX6_takeNumber 15 = .ok (.invokevirtual 62, 3) := by decide +kernel
theorem dX6_takeNumber_18 : decode cX6_takeNumber 18 = .ok (.goto 25, 3) := by decide +kernel
theorem dX6_takeNumber_21 : decode cX6_takeNumber 21 = .ok (.iload_n 3, 1) := by decide +kernel
theorem dX6_takeNumber_22 : decode cX6_takeNumber 22 = .ok (.iload_n 1, 1) := by decide +kernel
theorem dX6_takeNumber_23 : decode cX6_takeNumber 23 = .ok (.if_icmp .lt 8, 3) := by decide +kernel
theorem dX6_takeNumber_26 : decode cX6_takeNumber 26 = .ok (.iload_n 3, 1) := by decide +kernel
theorem dX6_takeNumber_27 : decode cX6_takeNumber 27 = .ok (.iload_n 2, 1) := by decide +kernel
theorem dX6_takeNumber_28 : decode cX6_takeNumber 28 = .ok (.if_icmp .le 11, 3) := by decide +kernel
theorem dX6_takeNumber_31 : decode cX6_takeNumber 31 = .ok (.aload_n 0, 1) := by decide +kernel
theorem dX6_takeNumber_32 : decode cX6_takeNumber 32 = .ok (.iconst 2, 1) := by decide +kernel
theorem dX6_takeNumber_33 : decode cX6_takeNumber 33 = .ok (.invokevirtual 62, 3) := by decide +kernel
theorem dX6_takeNumber_36 : decode cX6_takeNumber 36 = .ok (.goto 7, 3) := by decide +kernel
theorem dX6_takeNumber_39 : decode cX6_takeNumber 39 = .ok (.aload_n 0, 1) := by decide +kernel
theorem dX6_takeNumber_40 : decode cX6_takeNumber 40 = .ok (.invokevirtual 35, 3) := by decide +kernel
theorem dX6_takeNumber_43 : decode cX6_takeNumber 43 = .ok (.iload_n 3, 1) := by decide +kernel
theorem dX6_takeNumber_44 : decode cX6_takeNumber 44 = .ok (.ireturn, 1) := by decide +kernel
theorem dX6_advance_0 : decode cX6_advance 0 = .ok (.aload_n 0, 1) := by decide +kernel
theorem dX6_advance_1 : decode cX6_advance 1 = .ok (.getfield 26, 3) := by decide +kernel
theorem dX6_advance_4 : decode cX6_advance 4 = .ok (.ifCond .eq 4, 3) := by decide +kernel
theorem dX6_advance_7 : decode cX6_advance 7 = .ok (.return_, 1) := by decide +kernel
theorem dX6_advance_8 : decode cX6_advance 8 = .ok (.aload_n 0, 1) := by decide +kernel
theorem dX6_advance_9 : decode cX6_advance 9 = .ok (.aload_n 0, 1) := by decide +kernel
theorem dX6_advance_10 : decode cX6_advance 10 = .ok (.getfield 32, 3) := by decide +kernel
theorem dX6_advance_13 : decode cX6_advance 13 = .ok (.putfield 38, 3) := by decide +kernel
theorem dX6_advance_16 : decode cX6_advance 16 = .ok (.aload_n 0, 1) := by decide +kernel
theorem dX6_advance_17 : decode cX6_advance 17 = .ok (.getfield 38, 3) := by decide +kernel
theorem dX6_advance_20 : decode cX6_advance 20 = .ok (.aload_n 0, 1) := by decide +kernel
theorem dX6_advance_21 : decode cX6_advance 21 = .ok (.getfield 29, 3) := by decide +kernel
theorem dX6_advance_24 : decode cX6_advance 24 = .ok (.if_icmp .ge 33, 3) := by decide +kernel
theorem dX6_advance_27 : decode cX6_advance 27 = .ok (.aload_n 0, 1) := by decide +kernel
theorem dX6_advance_28 : decode cX6_advance 28 = .ok (.getfield 9, 3) := by decide +kernel
theorem dX6_advance_31 : decode cX6_advance 31 = .ok (.aload_n 0, 1) := by decide +kernel
theorem dX6_advance_32 : decode cX6_advance 32 = .ok (.getfield 38, 3) := by decide +kernel
theorem dX6_advance_35 : decode cX6_advance 35 = .ok (.invokestatic 50, 3) := by decide +kernel
theorem dX6_advance_38 : decode cX6_advance 38 = .ok (.invokestatic 69, 3) := by decide +kernel
theorem dX6_advance_41 : decode cX6_advance 41 = .ok (.ifCond .eq 16, 3) := by decide +kernel
theorem dX6_advance_44 : decode cX6_advance 44 = .ok (.aload_n 0, 1) := by decide +kernel
theorem dX6_advance_45 : decode cX6_advance 45 = .ok (.dup, 1) := by decide +kernel
theorem dX6_advance_46 : decode cX6_advance 46 = .ok (.getfield 38, 3) := by decide +kernel
theorem dX6_advance_49 : decode cX6_advance 49 = .ok (.iconst 1, 1) := by decide +kernel
theorem dX6_advance_50 : decode cX6_advance 50 = .ok (.iadd, 1) := by decide +kernel
theorem dX6_advance_51 : decode cX6_advance 51 = .ok (.putfield 38, 3) := by decide +kernel
theorem dX6_advance_54 : decode cX6_advance 54 = .ok (.goto (-38), 3) := by decide +kernel
theorem dX6_advance_57 : decode cX6_advance 57 = .ok (.aload_n 0, 1) := by decide +kernel
theorem dX6_advance_58 : decode cX6_advance 58 = .ok (.aload_n 0, 1) := by decide +kernel
theorem dX6_advance_59 : decode cX6_advance 59 = .ok (.getfield 38, 3) := by decide +kernel
theorem dX6_advance_62 : decode cX6_advance 62 = .ok (.putfield 32, 3) := by decide +kernel
theorem dX6_advance_65 : decode cX6_advance 65 = .ok (.aload_n 0, 1) := by decide +kernel
theorem dX6_advance_66 : decode cX6_advance 66 = .ok (.getfield 38, 3) := by decide +kernel
theorem dX6_advance_69 : decode cX6_advance 69 = .ok (.aload_n 0, 1) := by decide +kernel
theorem dX6_advance_70 : decode cX6_advance 70 = .ok (.getfield 29, 3) := by decide +kernel
theorem dX6_advance_73 : decode cX6_advance 73 = .ok (.if_icmp .lt 11, 3) := by decide +kernel
theorem dX6_advance_76 : decode cX6_advance 76 = .ok (.aload_n 0, 1) := by decide +kernel
theorem dX6_advance_77 : decode cX6_advance 77 = .ok (.iconst 0, 1) := by decide +kernel
theorem dX6_advance_78 : decode cX6_advance 78 = .ok (.putfield 41, 3) := by decide +kernel
theorem dX6_advance_81 : decode cX6_advance 81 = .ok (.goto 86, 3) := by decide +kernel
theorem dX6_advance_84 : decode cX6_advance 84 = .ok (.aload_n 0, 1) := by decide +kernel
theorem dX6_advance_85 : decode cX6_advance 85 = .ok (.getfield 9, 3) := by decide +kernel
theorem dX6_advance_88 : decode cX6_advance 88 = .ok (.aload_n 0, 1) := by decide +kernel
theorem dX6_advance_89 : decode cX6_advance 89 = .ok (.getfield 38, 3) := by decide +kernel
theorem dX6_advance_92 : decode cX6_advance 92 = .ok (.invokestatic 50, 3) := by decide +kernel
theorem dX6_advance_95 : decode cX6_advance 95 = .ok (.invokestatic 73, 3) := by decide +kernel
theorem dX6_advance_98 : decode cX6_advance 98 = .ok (.ifCond .eq 10, 3) := by decide +kernel
theorem dX6_advance_101 : decode cX6_advance 101 = .ok (.aload_n 0, 1) := by decide +kernel
theorem dX6_advance_102 : decode cX6_advance 102 = .ok (.invokevirtual 76, 3) := by decide +kernel
theorem dX6_advance_105 : decode cX6_advance 105 = .ok (.goto 62, 3) := by decide +kernel
theorem dX6_advance_108 : decode cX6_advance 108 = .ok (.aload_n 0, 1) := by decide +kernel
theorem dX6_advance_109 : decode cX6_advance 109 = .ok (.getfield 9, 3) := by decide +kernel
theorem dX6_advance_112 : decode cX6_advance 112 = .ok (.aload_n 0, 1) := by decide +kernel
theorem dX6_advance_113 : decode cX6_advance 113 = .ok (.getfield 38, 3) := by decide +kernel
theorem dX6_advance_116 : decode cX6_advance 116 = .ok (.invokestatic 50, 3) := by decide +kernel
theorem dX6_advance_119 : decode cX6_advance 119 = .ok (.invokestatic 79, 3) := by decide +kernel
theorem dX6_advance_122 : decode cX6_advance 122 = .ok (.ifCond .eq 10, 3) := by decide +kernel
theorem dX6_advance_125 : decode cX6_advance 125 = .ok (.aload_n 0, 1) := by decide +kernel
theorem dX6_advance_126 : decode cX6_advance 126 = .ok (.invokevirtual 82, 3) := by decide +kernel
theorem dX6_advance_129 : decode cX6_advance 129 = .ok (.goto 38, 3) := by decide +kernel
theorem dX6_advance_132 : decode cX6_advance 132 = .ok (.aload_n 0, 1) := by decide +kernel
theorem dX6_advance_133 : decode cX6_advance 133 = .ok (.aload_n 0, 1) := by decide +kernel
theorem dX6_advance_134 : decode cX6_advance 134 = .ok (.getfield 9, 3) := by decide +kernel
theorem dX6_advance_137 : decode cX6_advance 137 = .ok (.aload_n 0, 1) := by decide +kernel
theorem dX6_advance_138 : decode cX6_advance 138 = .ok (.getfield 38, 3) := by decide +kernel
theorem dX6_advance_141 : decode cX6_advance 141 = .ok (.invokestatic 50, 3) := by decide +kernel
theorem dX6_advance_144 : decode cX6_advance 144 = .ok (.bipush 59, 2) := by decide +kernel
theorem dX6_advance_146 : decode cX6_advance 146 = .ok (.if_icmp .ne 7, 3) := by decide +kernel
theorem dX6_advance_149 : decode cX6_advance 149 = .ok (.iconst 3, 1) := by decide +kernel
theorem dX6_advance_150 : decode cX6_advance 150 = .ok (.goto 4, 3) := by decide +kernel
theorem dX6_advance_153 : decode cX6_advance 153 = .ok (.iconst 4, 1) := by decide +kernel
theorem dX6_advance_154 : decode cX6_advance 154 = .ok (.putfield 41, 3) := by decide +kernel
theorem dX6_advance_157 : decode cX6_advance 157 = .ok (.aload_n 0, 1) := by decide +kernel
theorem dX6_advance_158 : decode cX6_advance 158 = .ok (.dup, 1) := by decide +kernel
theorem dX6_advance_159 : decode cX6_advance 159 = .ok (.getfield 32, 3) := by decide +kernel
theorem dX6_advance_162 : decode cX6_advance 162 = .ok (.iconst 1, 1) := by decide +kernel
theorem dX6_advance_163 : decode cX6_advance 163 = .ok (.iadd, 1) := by decide +kernel
theorem dX6_advance_164 : decode cX6_advance 164 = .ok (.putfield 32, 3) := by decide +kernel
theorem dX6_advance_167 : decode cX6_advance 167 = .ok (.return_, 1) := by decide +kernel
theorem dX6_scanWord_0 : decode cX6_scanWord 0 = .ok (.aload_n 0, 1) := by decide +kernel
theorem dX6_scanWord_1 : decode cX6_scanWord 1 = .ok (.iconst 1, 1) := by decide +kernel
theorem dX6_scanWord_2 : decode cX6_scanWord 2 = .ok (.putfield 41, 3) := by decide +kernel
theorem dX6_scanWord_5 : decode cX6_scanWord 5 = .ok (.aload_n 0, 1) := by decide +kernel
theorem dX6_scanWord_6 : decode cX6_scanWord 6 = .ok (.getfield 32, 3) := by decide +kernel
theorem dX6_scanWord_9 : decode cX6_scanWord 9 = .ok (.aload_n 0, 1) := by decide +kernel
theorem dX6_scanWord_10 : decode cX6_scanWord 10 = .ok (.getfield 29, 3) := by decide +kernel
theorem dX6_scanWord_13 : decode cX6_scanWord 13 = .ok (.if_icmp .ge 33, 3) := by decide +kernel
theorem dX6_scanWord_16 : decode cX6_scanWord 16 = .ok (.aload_n 0, 1) := by decide +kernel
theorem dX6_scanWord_17 : decode cX6_scanWord 17 = .ok (.getfield 9, 3) := by decide +kernel
theorem dX6_scanWord_20 : decode cX6_scanWord 20 = .ok (.aload_n 0, 1) := by decide +kernel
theorem dX6_scanWord_21 : decode cX6_scanWord 21 = .ok (.getfield 32, 3) := by decide +kernel
theorem dX6_scanWord_24 : decode cX6_scanWord 24 = .ok (.invokestatic 50, 3) := by decide +kernel
theorem dX6_scanWord_27 : decode cX6_scanWord 27 = .ok (.invokestatic 73, 3) := by decide +kernel
theorem dX6_scanWord_30 : decode cX6_scanWord 30 = .ok (.ifCond .eq 16, 3) := by decide +kernel
theorem dX6_scanWord_33 : decode cX6_scanWord 33 = .ok (.aload_n 0, 1) := by decide +kernel
theorem dX6_scanWord_34 : decode cX6_scanWord 34 = .ok (.dup, 1) := by decide +kernel
theorem dX6_scanWord_35 : decode cX6_scanWord 35 = .ok (.getfield 32, 3) := by decide +kernel
theorem dX6_scanWord_38 : decode cX6_scanWord 38 = .ok (.iconst 1, 1) := by decide +kernel
theorem dX6_scanWord_39 : decode cX6_scanWord 39 = .ok (.iadd, 1) := by decide +kernel
theorem dX6_scanWord_40 : decode cX6_scanWord 40 = .ok (.putfield 32, 3) := by decide +kernel
theorem dX6_scanWord_43 : decode cX6_scanWord 43 = .ok (.goto (-38), 3) := by decide +kernel
theorem dX6_scanWord_46 : decode cX6_scanWord 46 = .ok (.return_, 1) := by decide +kernel
theorem dX6_scanNumber_0 : decode cX6_scanNumber 0 = .ok (.aload_n 0, 1) := by decide +kernel
theorem dX6_scanNumber_1 : decode cX6_scanNumber 1 = .ok (.iconst 2, 1) := by decide +kernel
theorem dX6_scanNumber_2 : decode cX6_scanNumber 2 = .ok (.putfield 41, 3) := by decide +kernel
theorem dX6_scanNumber_5 : decode cX6_scanNumber 5 = .ok (.aload_n 0, 1) := by decide +kernel
theorem dX6_scanNumber_6 : decode cX6_scanNumber 6 = .ok (.iconst 0, 1) := by decide +kernel
theorem dX6_scanNumber_7 : decode cX6_scanNumber 7 = .ok (.putfield 66, 3) := by decide +kernel
theorem dX6_scanNumber_10 : decode cX6_scanNumber 10 = .ok (.aload_n 0, 1) := by decide +kernel
theorem dX6_scanNumber_11 : decode cX6_scanNumber 11 = .ok (.getfield 32, 3) := by decide +kernel
theorem dX6_scanNumber_14 : decode cX6_scanNumber 14 = .ok (.aload_n 0, 1) := by decide +kernel
theorem dX6_scanNumber_15 : decode cX6_scanNumber 15 = .ok (.getfield 29, 3) := by decide +kernel
theorem dX6_scanNumber_18 : decode cX6_scanNumber 18 = .ok (.if_icmp .ge 65, 3) := by decide +kernel
theorem dX6_scanNumber_21 : decode cX6_scanNumber 21 = .ok (.aload_n 0, 1) := by decide +kernel
theorem dX6_scanNumber_22 : decode cX6_scanNumber 22 = .ok (.getfield 9, 3) := by decide +kernel
theorem dX6_scanNumber_25 : decode cX6_scanNumber 25 = .ok (.aload_n 0, 1) := by decide +kernel
theorem dX6_scanNumber_26 : decode cX6_scanNumber 26 = .ok (.getfield 32, 3) := by decide +kernel
theorem dX6_scanNumber_29 : decode cX6_scanNumber 29 = .ok (.invokestatic 50, 3) := by decide +kernel
theorem dX6_scanNumber_32 : decode cX6_scanNumber 32 = .ok (.invokestatic 79, 3) := by decide +kernel
theorem dX6_scanNumber_35 : decode cX6_scanNumber 35 = .ok (.ifCond .eq 48, 3) := by decide +kernel
theorem dX6_scanNumber_38 : decode cX6_scanNumber 38 = .ok (.aload_n 0, 1) := by decide +kernel
theorem dX6_scanNumber_39 : decode cX6_scanNumber 39 = .ok (.sipush 1000, 3) := by decide +kernel
theorem dX6_scanNumber_42 : decode cX6_scanNumber 42 = .ok (.aload_n 0, 1) := by decide +kernel
theorem dX6_scanNumber_43 : decode cX6_scanNumber 43 = .ok (.getfield 66, 3) := by decide +kernel
theorem dX6_scanNumber_46 : decode cX6_scanNumber 46 = .ok (.bipush 10, 2) := by decide +kernel
theorem dX6_scanNumber_48 : decode cX6_scanNumber 48 = .ok (.imul, 1) := by decide +kernel
theorem dX6_scanNumber_49 : decode cX6_scanNumber 49 = .ok (.aload_n 0, 1) := by decide +kernel
theorem dX6_scanNumber_50 : decode cX6_scanNumber 50 = .ok (.getfield 9, 3) := by decide +kernel
theorem dX6_scanNumber_53 : decode cX6_scanNumber 53 = .ok (.aload_n 0, 1) := by decide +kernel
theorem dX6_scanNumber_54 : decode cX6_scanNumber 54 = .ok (.getfield 32, 3) := by decide +kernel
theorem dX6_scanNumber_57 : decode cX6_scanNumber 57 = .ok (.invokestatic 50, 3) := by decide +kernel
theorem dX6_scanNumber_60 : decode cX6_scanNumber 60 = .ok (.iadd, 1) := by decide +kernel
theorem dX6_scanNumber_61 : decode cX6_scanNumber 61 = .ok (.bipush 48, 2) := by decide +kernel
theorem dX6_scanNumber_63 : decode cX6_scanNumber 63 = .ok (.isub, 1) := by decide +kernel
theorem dX6_scanNumber_64 : decode cX6_scanNumber 64 = .ok (.invokestatic 85, 3) := by decide +kernel
theorem dX6_scanNumber_67 : decode cX6_scanNumber 67 = .ok (.putfield 66, 3) := by decide +kernel
theorem dX6_scanNumber_70 : decode cX6_scanNumber 70 = .ok (.aload_n 0, 1) := by decide +kernel
theorem dX6_scanNumber_71 : decode cX6_scanNumber 71 = .ok (.dup, 1) := by decide +kernel
theorem dX6_scanNumber_72 : decode cX6_scanNumber 72 = .ok (.getfield 32, 3) := by decide +kernel
theorem dX6_scanNumber_75 : decode cX6_scanNumber 75 = .ok (.iconst 1, 1) := by decide +kernel
theorem dX6_scanNumber_76 : decode cX6_scanNumber 76 = .ok (.iadd, 1) := by decide +kernel
theorem dX6_scanNumber_77 : decode cX6_scanNumber 77 = .ok (.putfield 32, 3) := by decide +kernel
theorem dX6_scanNumber_80 : decode cX6_scanNumber 80 = .ok (.goto (-70), 3) := by decide +kernel
theorem dX6_scanNumber_83 : decode cX6_scanNumber 83 = .ok (.return_, 1) := by decide +kernel
theorem dX6_isBlank_0 : decode cX6_isBlank 0 = .ok (.iload_n 0, 1) := by decide +kernel
theorem dX6_isBlank_1 : decode cX6_isBlank 1 = .ok (.bipush 32, 2) := by decide +kernel
theorem dX6_isBlank_3 : decode cX6_isBlank 3 = .ok (.if_icmp .eq 9, 3) := by decide +kernel
theorem dX6_isBlank_6 : decode cX6_isBlank 6 = .ok (.iload_n 0, 1) := by decide +kernel
theorem dX6_isBlank_7 : decode cX6_isBlank 7 = .ok (.bipush 10, 2) := by decide +kernel
theorem dX6_isBlank_9 : decode cX6_isBlank 9 = .ok (.if_icmp .ne 7, 3) := by decide +kernel
theorem dX6_isBlank_12 : decode cX6_isBlank 12 = .ok (.iconst 1, 1) := by decide +kernel
theorem dX6_isBlank_13 : decode cX6_isBlank 13 = .ok (.goto 4, 3) := by decide +kernel
theorem dX6_isBlank_16 : decode cX6_isBlank 16 = .ok (.iconst 0, 1) := by decide +kernel
theorem dX6_isBlank_17 : decode cX6_isBlank 17 = .ok (.ireturn, 1) := by decide +kernel
theorem dX6_isLetter_0 : decode cX6_isLetter 0 = .ok (.iload_n 0, 1) := by decide +kernel
theorem dX6_isLetter_1 : decode cX6_isLetter 1 = .ok (.bipush 97, 2) := by decide +kernel
theorem dX6_isLetter_3 : decode cX6_isLetter 3 = .ok (.if_icmp .lt 13, 3) := by decide +kernel
theorem dX6_isLetter_6 : decode cX6_isLetter 6 = .ok (.iload_n 0, 1) := by decide +kernel
theorem dX6_isLetter_7 : decode cX6_isLetter 7 = .ok (.bipush 122, 2) := by decide +kernel
theorem dX6_isLetter_9 : decode cX6_isLetter 9 = .ok (.if_icmp .gt 7, 3) := by decide +kernel
theorem dX6_isLetter_12 : decode cX6_isLetter 12 = .ok (.iconst 1, 1) := by decide +kernel
theorem dX6_isLetter_13 : decode cX6_isLetter 13 = .ok (.goto 4, 3) := by decide +kernel
theorem dX6_isLetter_16 : decode cX6_isLetter 16 = .ok (.iconst 0, 1) := by decide +kernel
theorem dX6_isLetter_17 : decode cX6_isLetter 17 = .ok (.ireturn, 1) := by decide +kernel
theorem dX6_isDigit_0 : decode cX6_isDigit 0 = .ok (.iload_n 0, 1) := by decide +kernel
theorem dX6_isDigit_1 : decode cX6_isDigit 1 = .ok (.bipush 48, 2) := by decide +kernel
theorem dX6_isDigit_3 : decode cX6_isDigit 3 = .ok (.if_icmp .lt 13, 3) := by decide +kernel
theorem dX6_isDigit_6 : decode cX6_isDigit 6 = .ok (.iload_n 0, 1) := by decide +kernel
theorem dX6_isDigit_7 : decode cX6_isDigit 7 = .ok (.bipush 57, 2) := by decide +kernel
theorem dX6_isDigit_9 : decode cX6_isDigit 9 = .ok (.if_icmp .gt 7, 3) := by decide +kernel
theorem dX6_isDigit_12 : decode cX6_isDigit 12 = .ok (.iconst 1, 1) := by decide +kernel
theorem dX6_isDigit_13 : decode cX6_isDigit 13 = .ok (.goto 4, 3) := by decide +kernel
theorem dX6_isDigit_16 : decode cX6_isDigit 16 = .ok (.iconst 0, 1) := by decide +kernel
theorem dX6_isDigit_17 : decode cX6_isDigit 17 = .ok (.ireturn, 1) := by decide +kernel
theorem dX7_allows_0 : decode cX7_allows 0 = .ok (.iload_n 1, 1) := by decide +kernel
theorem dX7_allows_1 : decode cX7_allows 1 = .ok (.aload_n 0, 1) := by decide +kernel
theorem dX7_allows_2 : decode cX7_allows 2 = .ok (.getfield 63, 3) := by decide +kernel
theorem dX7_allows_5 : decode cX7_allows 5 = .ok (.if_icmp .lt 15, 3) := by decide +kernel
theorem dX7_allows_8 : decode cX7_allows 8 = .ok (.iload_n 1, 1) := by decide +kernel
theorem dX7_allows_9 : decode cX7_allows 9 = .ok (.aload_n 0, 1) := by decide +kernel
theorem dX7_allows_10 : decode cX7_allows 10 = .ok (.getfield 66, 3) := by decide +kernel
theorem dX7_allows_13 : decode cX7_allows 13 = .ok (.if_icmp .gt 7, 3) := by decide +kernel
theorem dX7_allows_16 : decode cX7_allows 16 = .ok (.iconst 1, 1) := by decide +kernel
theorem dX7_allows_17 : decode cX7_allows 17 = .ok (.goto 4, 3) := by decide +kernel
theorem dX7_allows_20 : decode cX7_allows 20 = .ok (.iconst 0, 1) := by decide +kernel
theorem dX7_allows_21 : decode cX7_allows 21 = .ok (.ireturn, 1) := by decide +kernel
theorem dX8_init_0 : decode cX8_init 0 = .ok (.aload_n 0, 1) := by decide +kernel
theorem dX8_init_1 : decode cX8_init 1 = .ok (.invokespecial 1, 3) := by decide +kernel
theorem dX8_init_4 : decode cX8_init 4 = .ok (.aload_n 0, 1) := by decide +kernel
theorem dX8_init_5 : decode cX8_init 5 = .ok (.new 7, 3) := by decide +kernel
theorem dX8_init_8 : decode cX8_init 8 = .ok (.dup, 1) := by decide +kernel
theorem dX8_init_9 : decode cX8_init 9 = .ok (.invokespecial 9, 3) := by decide +kernel
theorem dX8_init_12 : decode cX8_init 12 = .ok (.putfield 10, 3) := by decide +kernel
theorem dX8_init_15 : decode cX8_init 15 = .ok (.aload_n 0, 1) := by decide +kernel
theorem dX8_init_16 : decode cX8_init 16 = .ok (.new 16, 3) := by decide +kernel
theorem dX8_init_19 : decode cX8_init 19 = .ok (.dup, 1) := by decide +kernel
theorem dX8_init_20 : decode cX8_init 20 = .ok (.invokespecial 18, 3) := by decide +kernel
theorem dX8_init_23 : decode cX8_init 23 = .ok (.putfield 19, 3) := by decide +kernel
theorem dX8_init_26 : decode cX8_init 26 = .ok (.aload_n 0, 1) := by decide +kernel
theorem dX8_init_27 : decode cX8_init 27 = .ok (.new 16, 3) := by decide +kernel
theorem dX8_init_30 : decode cX8_init 30 = .ok (.dup, 1) := by decide +kernel
theorem dX8_init_31 : decode cX8_init 31 = .ok (.invokespecial 18, 3) := by decide +kernel
theorem dX8_init_34 : decode cX8_init 34 = .ok (.putfield 23, 3) := by decide +kernel
theorem dX8_init_37 : decode cX8_init 37 = .ok (.aload_n 0, 1) := by decide +kernel
theorem dX8_init_38 : decode cX8_init 38 = .ok (.new 26, 3) := by decide +kernel
theorem dX8_init_41 : decode cX8_init 41 = .ok (.dup, 1) := by decide +kernel
theorem dX8_init_42 : decode cX8_init 42 = .ok (.aload_n 0, 1) := by decide +kernel
theorem dX8_init_43 : decode cX8_init 43 = .ok (.getfield 23, 3) := by decide +kernel
theorem dX8_init_46 : decode cX8_init 46 = .ok (.invokespecial 28, 3) := by decide +kernel
theorem dX8_init_49 : decode cX8_init 49 = .ok (.putfield 31, 3) := by decide +kernel
theorem dX8_init_52 : decode cX8_init 52 = .ok (.aload_n 0, 1) := by decide +kernel
theorem dX8_init_53 : decode cX8_init 53 = .ok (.new 26, 3) := by decide +kernel
theorem dX8_init_56 : decode cX8_init 56 = .ok (.dup, 1) := by decide +kernel
theorem dX8_init_57 : decode cX8_init 57 = .ok (.aload_n 0, 1) := by decide +kernel
theorem dX8_init_58 : decode cX8_init 58 = .ok (.getfield 23, 3) := by decide +kernel
theorem dX8_init_61 : decode cX8_init 61 = .ok (.invokespecial 28, 3) := by decide +kernel
theorem dX8_init_64 : decode cX8_init 64 = .ok (.putfield 35, 3) := by decide +kernel
theorem dX8_init_67 : decode cX8_init 67 = .ok (.aload_n 0, 1) := by decide +kernel
theorem dX8_init_68 : decode cX8_init 68 = .ok (.new 26, 3) := by decide +kernel
theorem dX8_init_71 : decode cX8_init 71 = .ok (.dup, 1) := by decide +kernel
theorem dX8_init_72 : decode cX8_init 72 = .ok (.aload_n 0, 1) := by decide +kernel
theorem dX8_init_73 : decode cX8_init 73 = .ok (.getfield 23, 3) := by decide +kernel
theorem dX8_init_76 : decode cX8_init 76 = .ok (.invokespecial 28, 3) := by decide +kernel
theorem dX8_init_79 : decode cX8_init 79 = .ok (.putfield 38, 3) := by decide +kernel
theorem dX8_init_82 : decode cX8_init 82 = .ok (.aload_n 0, 1) := by decide +kernel
theorem dX8_init_83 : decode cX8_init 83 = .ok (.new 41, 3) := by decide +kernel
theorem dX8_init_86 : decode cX8_init 86 = .ok (.dup, 1) := by decide +kernel
theorem dX8_init_87 : decode cX8_init 87 = .ok (.aload_n 0, 1) := by decide +kernel
theorem dX8_init_88 : decode cX8_init 88 = .ok (.getfield 23, 3) := by decide +kernel
theorem dX8_init_91 : decode cX8_init 91 = .ok (.invokespecial 43, 3) := by decide +kernel
theorem dX8_init_94 : decode cX8_init 94 = .ok (.putfield 44, 3) := by decide +kernel
theorem dX8_init_97 : decode cX8_init 97 = .ok (.aload_n 0, 1) := by decide +kernel
theorem dX8_init_98 : decode cX8_init 98 = .ok (.new 48, 3) := by decide +kernel
theorem dX8_init_101 : decode cX8_init 101 = .ok (.dup, 1) := by decide +kernel
theorem dX8_init_102 : decode cX8_init 102 = .ok (.invokespecial 50, 3) := by decide +kernel
theorem dX8_init_105 : decode cX8_init 105 = .ok (.putfield 51, 3) := by decide +kernel
theorem dX8_init_108 : decode cX8_init 108 = .ok (.aload_n 0, 1) := by decide +kernel
theorem dX8_init_109 : decode cX8_init 109 = .ok (.bipush 64, 2) := by decide +kernel
theorem dX8_init_111 : decode cX8_init 111 = .ok (.newarray .int, 2) := by decide +kernel
theorem dX8_init_113 : decode cX8_init 113 = .ok (.putfield 55, 3) := by decide +kernel
theorem dX8_init_116 : decode cX8_init 116 = .ok (.aload_n 0, 1) := by decide +kernel
theorem dX8_init_117 : decode cX8_init 117 = .ok (.getfield 23, 3) := by decide +kernel
theorem dX8_init_120 : decode cX8_init 120 = .ok (.bipush 30, 2) := by decide +kernel
theorem dX8_init_122 : decode cX8_init 122 = .ok (.iconst 4, 1) := by decide +kernel
theorem dX8_init_123 : decode cX8_init 123 = .ok (.bipush 9, 2) := by decide +kernel
theorem dX8_init_125 : decode cX8_init 125 = .ok (.iconst 2, 1) := by decide +kernel
theorem dX8_init_126 : decode cX8_init 126 = .ok (.invokevirtual 59, 3) := by decide +kernel
theorem dX8_init_129 : decode cX8_init 129 = .ok (.aload_n 0, 1) := by decide +kernel
theorem dX8_init_130 : decode cX8_init 130 = .ok (.getfield 23, 3) := by decide +kernel
theorem dX8_init_133 : decode cX8_init 133 = .ok (.iconst 1, 1) := by decide +kernel
theorem dX8_init_134 : decode cX8_init 134 = .ok (.iconst 0, 1) := by decide +kernel
theorem dX8_init_135 : decode cX8_init 135 = .ok (.bipush 40, 2) := by decide +kernel
theorem dX8_init_137 : decode cX8_init 137 = .ok (.bipush 10, 2) := by decide +kernel
theorem dX8_init_139 : decode cX8_init 139 = .ok (.bipush 20, 2) := by decide +kernel
theorem dX8_init_141 : decode cX8_init 141 = .ok (.invokevirtual 63, 3) := by decide +kernel
theorem dX8_init_144 : decode cX8_init 144 = .ok (.aload_n 0, 1) := by decide +kernel
theorem dX8_init_145 : decode cX8_init 145 = .ok (.getfield 23, 3) := by decide +kernel
theorem dX8_init_148 : decode cX8_init 148 = .ok (.iconst 0, 1) := by decide +kernel
theorem dX8_init_149 : decode cX8_init 149 = .ok (.iconst 0, 1) := by decide +kernel
theorem dX8_init_150 : decode cX8_init 150 = .ok (.bipush 12, 2) := by decide +kernel
theorem dX8_init_152 : decode cX8_init 152 = .ok (.iconst 0, 1) := by decide +kernel
theorem dX8_init_153 : decode cX8_init 153 = .ok (.iconst 5, 1) := by decide +kernel
theorem dX8_init_154 : decode cX8_init 154 = .ok (.invokevirtual 63, 3) := by decide +kernel
theorem dX8_init_157 : decode cX8_init 157 = .ok (.aload_n 0, 1) := by decide +kernel
theorem dX8_init_158 : decode cX8_init 158 = .ok (.getfield 23, 3) := by decide +kernel
theorem dX8_init_161 : decode cX8_init 161 = .ok (.iconst 0, 1) := by decide +kernel
theorem dX8_init_162 : decode cX8_init 162 = .ok (.iconst 0, 1) := by decide +kernel
theorem dX8_init_163 : decode cX8_init 163 = .ok (.iconst 3, 1) := by decide +kernel
theorem dX8_init_164 : decode cX8_init 164 = .ok (.iconst 5, 1) := by decide +kernel
theorem dX8_init_165 : decode cX8_init 165 = .ok (.bipush 40, 2) := by decide +kernel
theorem dX8_init_167 : decode cX8_init 167 = .ok (.invokevirtual 63, 3) := by decide +kernel
theorem dX8_init_170 : decode cX8_init 170 = .ok (.aload_n 0, 1) := by decide +kernel
theorem dX8_init_171 : decode cX8_init 171 = .ok (.getfield 23, 3) := by decide +kernel
theorem dX8_init_174 : decode cX8_init 174 = .ok (.iconst 1, 1) := by decide +kernel
theorem dX8_init_175 : decode cX8_init 175 = .ok (.iconst 1, 1) := by decide +kernel
theorem dX8_init_176 : decode cX8_init 176 = .ok (.bipush 25, 2) := by decide +kernel
theorem dX8_init_178 : decode cX8_init 178 = .ok (.bipush 30, 2) := by decide +kernel
theorem dX8_init_180 : decode cX8_init 180 = .ok (.iconst 0, 1) := by decide +kernel
theorem dX8_init_181 : decode cX8_init 181 = .ok (.invokevirtual 63, 3) := by decide +kernel
theorem dX8_init_184 : decode cX8_init 184 = .ok (.aload_n 0, 1) := by decide +kernel
theorem dX8_init_185 : decode cX8_init 185 = .ok (.getfield 23, 3) := by decide +kernel
theorem dX8_init_188 : decode cX8_init 188 = .ok (.iconst 0, 1) := by decide +kernel
theorem dX8_init_189 : decode cX8_init 189 = .ok (.iconst 1, 1) := by decide +kernel
theorem dX8_init_190 : decode cX8_init 190 = .ok (.bipush 9, 2) := by decide +kernel
theorem dX8_init_192 : decode cX8_init 192 = .ok (.bipush 20, 2) := by decide +kernel
theorem dX8_init_194 : decode cX8_init 194 = .ok (.bipush 15, 2) := by decide +kernel
theorem dX8_init_196 : decode cX8_init 196 = .ok (.invokevirtual 63, 3) := by decide +kernel
theorem dX8_init_199 : decode cX8_init 199 = .ok (.aload_n 0, 1) := by decide +kernel
theorem dX8_init_200 : decode cX8_init 200 = .ok (.getfield 23, 3) := by decide +kernel
theorem dX8_init_203 : decode cX8_init 203 = .ok (.iconst 1, 1) := by decide +kernel
theorem dX8_init_204 : decode cX8_init 204 = .ok (.iconst 0, 1) := by decide +kernel
theorem dX8_init_205 : decode cX8_init 205 = .ok (.iconst 1, 1) := by decide +kernel
theorem dX8_init_206 : decode cX8_init 206 = .ok (.invokevirtual 67, 3) := by decide +kernel
theorem dX8_init_209 : decode cX8_init 209 = .ok (.aload_n 0, 1) := by decide +kernel
theorem dX8_init_210 : decode cX8_init 210 = .ok (.getfield 23, 3) := by decide +kernel
theorem dX8_init_213 : decode cX8_init 213 = .ok (.iconst 3, 1) := by decide +kernel
theorem dX8_init_214 : decode cX8_init 214 = .ok (.iconst 1, 1) := by decide +kernel
theorem dX8_init_215 : decode cX8_init 215 = .ok (.iconst 2, 1) := by decide +kernel
theorem dX8_init_216 : decode cX8_init 216 = .ok (.invokevirtual 67, 3) := by decide +kernel
theorem dX8_init_219 : decode cX8_init 219 = .ok (.aload_n 0, 1) := by decide +kernel
theorem dX8_init_220 : decode cX8_init 220 = .ok (.getfield 31, 3) := by decide +kernel
theorem dX8_init_223 : decode cX8_init 223 = .ok (.invokevirtual 71, 3) := by decide +kernel
theorem dX8_init_226 : decode cX8_init 226 = .ok (.return_, 1) := by decide +kernel
theorem dX8_appendText_0 : decode cX8_appendText 0 = .ok (.aload_n 0, 1) := by decide +kernel
theorem dX8_appendText_1 : decode cX8_appendText 1 = .ok (.getfield 10, 3) := by decide +kernel
theorem dX8_appendText_4 : decode cX8_appendText 4 = .ok (.getfield 73, 3) := by decide +kernel
theorem dX8_appendText_7 : decode cX8_appendText 7 = .ok (.sipush 480, 3) := by decide +kernel
theorem dX8_appendText_10 : decode cX8_appendText 10 = .ok (.if_icmp .le 5, 3) := by decide +kernel
theorem dX8_appendText_13 : decode cX8_appendText 13 = .ok (.iconst (-1), 1) := by decide +kernel
theorem dX8_appendText_14 : decode cX8_appendText 14 = .ok (.ireturn, 1) := by decide +kernel
theorem dX8_appendText_15 : decode cX8_appendText 15 = .ok (.aload_n 0, 1) := by decide +kernel
theorem dX8_appendText_16 : decode cX8_appendText 16 = .ok (.getfield 10, 3) := by decide +kernel
theorem dX8_appendText_19 : decode cX8_appendText 19 = .ok (.iload_n 1, 1) := by decide +kernel
theorem dX8_appendText_20 : decode cX8_appendText 20 = .ok (.invokevirtual 77, 3) := by decide +kernel
theorem dX8_appendText_23 : decode cX8_appendText 23 = .ok (.aload_n 0, 1) := by decide +kernel
theorem dX8_appendText_24 : decode cX8_appendText 24 = .ok (.getfield 10, 3) := by decide +kernel
theorem dX8_appendText_27 : decode cX8_appendText 27 = .ok (.iload_n 2, 1) := by decide +kernel
theorem dX8_appendText_28 : decode cX8_appendText 28 = .ok (.invokevirtual 77, 3) := by decide +kernel
theorem dX8_appendText_31 : decode cX8_appendText 31 = .ok (.aload_n 0, 1) := by decide +kernel
theorem dX8_appendText_32 : decode cX8_appendText 32 = .ok (.getfield 10, 3) := by decide +kernel
theorem dX8_appendText_35 : decode cX8_appendText 35 = .ok (.iload_n 3, 1) := by decide +kernel
theorem dX8_appendText_36 : decode cX8_appendText 36 = .ok (.invokevirtual 77, 3) := by decide +kernel
theorem dX8_appendText_39 : decode cX8_appendText 39 = .ok (.aload_n 0, 1) := by decide +kernel
theorem dX8_appendText_40 : decode cX8_appendText 40 = .ok (.getfield 10, 3) := by decide +kernel
theorem dX8_appendText_43 : decode cX8_appendText 43 = .ok (.iload 4, 2) := by decide +kernel
theorem dX8_appendText_45 : decode cX8_appendText 45 = .ok (.invokevirtual 77, 3) := by decide +kernel
theorem dX8_appendText_48 : decode cX8_appendText 48 = .ok (.aload_n 0, 1) := by decide +kernel
theorem dX8_appendText_49 : decode cX8_appendText 49 = .ok (.getfield 10, 3) := by decide +kernel
theorem dX8_appendText_52 : decode cX8_appendText 52 = .ok (.iload 5, 2) := by decide +kernel
theorem dX8_appendText_54 : decode cX8_appendText 54 = .ok (.invokevirtual 77, 3) := by decide +kernel
theorem dX8_appendText_57 : decode cX8_appendText 57 = .ok (.aload_n 0, 1) := by decide +kernel
theorem dX8_appendText_58 : decode cX8_appendText 58 = .ok (.getfield 10, 3) := by decide +kernel
theorem dX8_appendText_61 : decode cX8_appendText 61 = .ok (.getfield 73, 3) := by decide +kernel
theorem dX8_appendText_64 : decode cX8_appendText 64 = .ok (.ireturn, 1) := by decide +kernel
theorem dX8_loadGame_0 : decode cX8_loadGame 0 = .ok (.aload_n 0, 1) := by decide +kernel
theorem dX8_loadGame_1 : decode cX8_loadGame 1 = .ok (.iload_n 1, 1) := by decide +kernel
theorem dX8_loadGame_2 : decode cX8_loadGame 2 = .ok (.invokevirtual 81, 3) := by decide +kernel
theorem dX8_loadGame_5 : decode cX8_loadGame 5 = .ok (.aload_n 0, 1) := by decide +kernel
theorem dX8_loadGame_6 : decode cX8_loadGame 6 = .ok (.getfield 10, 3) := by decide +kernel
theorem dX8_loadGame_9 : decode cX8_loadGame 9 = .ok (.iload_n 1, 1) := by decide +kernel
theorem dX8_loadGame_10 : decode cX8_loadGame 10 = .ok (.invokevirtual 84, 3) := by decide +kernel
theorem dX8_loadGame_13 : decode cX8_loadGame 13 = .ok (.aload_n 0, 1) := by decide +kernel
theorem dX8_loadGame_14 : decode cX8_loadGame 14 = .ok (.getfield 10, 3) := by decide +kernel
theorem dX8_loadGame_17 : decode cX8_loadGame 17 = .ok (.aload_n 0, 1) := by decide +kernel
theorem dX8_loadGame_18 : decode cX8_loadGame 18 = .ok (.getfield 19, 3) := by decide +kernel
theorem dX8_loadGame_21 : decode cX8_loadGame 21 = .ok (.invokestatic 87, 3) := by decide +kernel
theorem dX8_loadGame_24 : decode cX8_loadGame 24 = .ok (.aload_n 0, 1) := by decide +kernel
theorem dX8_loadGame_25 : decode cX8_loadGame 25 = .ok (.getfield 10, 3) := by decide +kernel
theorem dX8_loadGame_28 : decode cX8_loadGame 28 = .ok (.aload_n 0, 1) := by decide +kernel
theorem dX8_loadGame_29 : decode cX8_loadGame 29 = .ok (.getfield 19, 3) := by decide +kernel
theorem dX8_loadGame_32 : decode cX8_loadGame 32 = .ok (.invokestatic 91, 3) := by decide +kernel
theorem dX8_loadGame_35 : decode cX8_loadGame 35 = .ok (.aload_n 0, 1) := by decide +kernel
theorem dX8_loadGame_36 : decode cX8_loadGame 36 = .ok (.getfield 10, 3) := by decide +kernel
theorem dX8_loadGame_39 : decode cX8_loadGame 39 = .ok (.aload_n 0, 1) := by decide +kernel
theorem dX8_loadGame_40 : decode cX8_loadGame 40 = .ok (.getfield 19, 3) := by decide +kernel
theorem dX8_loadGame_43 : decode cX8_loadGame 43 = .ok (.invokestatic 94, 3) := by decide +kernel
theorem dX8_loadGame_46 : decode cX8_loadGame 46 = .ok (.aload_n 0, 1) := by decide +kernel
theorem dX8_loadGame_47 : decode cX8_loadGame 47 = .ok (.getfield 10, 3) := by decide +kernel
theorem dX8_loadGame_50 : decode cX8_loadGame 50 = .ok (.iconst 0, 1) := by decide +kernel
theorem dX8_loadGame_51 : decode cX8_loadGame 51 = .ok (.putfield 73, 3) := by decide +kernel
theorem dX8_loadGame_54 : decode cX8_loadGame 54 = .ok (.aload_n 0, 1) := by decide +kernel
theorem dX8_loadGame_55 : decode cX8_loadGame 55 = .ok (.getfield 10, 3) := by decide +kernel
theorem dX8_loadGame_58 : decode cX8_loadGame 58 = .ok (.invokevirtual 97, 3) := by decide +kernel
theorem dX8_loadGame_61 : decode cX8_loadGame 61 = .ok (.ifCond .eq 5, 3) := by decide +kernel
theorem dX8_loadGame_64 : decode cX8_loadGame 64 = .ok (.iconst (-1), 1) := by decide +kernel
theorem dX8_loadGame_65 : decode cX8_loadGame 65 = .ok (.ireturn, 1) := by decide +kernel
theorem dX8_loadGame_66 : decode cX8_loadGame 66 = .ok (.aload_n 0, 1) := by decide +kernel
theorem dX8_loadGame_67 : decode cX8_loadGame 67 = .ok (.getfield 23, 3) := by decide +kernel
theorem dX8_loadGame_70 : decode cX8_loadGame 70 = .ok (.aload_n 0, 1) := by decide +kernel
theorem dX8_loadGame_71 : decode cX8_loadGame 71 = .ok (.getfield 19, 3) := by decide +kernel
theorem dX8_loadGame_74 : decode cX8_loadGame 74 = .ok (.invokevirtual 101, 3) := by decide +kernel
theorem dX8_loadGame_77 : decode cX8_loadGame 77 = .ok (.aload_n 0, 1) := by decide +kernel
theorem dX8_loadGame_78 : decode cX8_loadGame 78 = .ok (.getfield 31, 3) := by decide +kernel
theorem dX8_loadGame_81 : decode cX8_loadGame 81 = .ok (.invokevirtual 71, 3) := by decide +kernel
theorem dX8_loadGame_84 : decode cX8_loadGame 84 = .ok (.aload_n 0, 1) := by decide +kernel
theorem dX8_loadGame_85 : decode cX8_loadGame 85 = .ok (.getfield 44, 3) := by decide +kernel
theorem dX8_loadGame_88 : decode cX8_loadGame 88 = .ok (.invokevirtual 104, 3) := by decide +kernel
theorem dX8_loadGame_91 : decode cX8_loadGame 91 = .ok (.aload_n 0, 1) := by decide +kernel
theorem dX8_loadGame_92 : decode cX8_loadGame 92 = .ok (.iconst 0, 1) := by decide +kernel
theorem dX8_loadGame_93 : decode cX8_loadGame 93 = .ok (.putfield 107, 3) := by decide +kernel
theorem dX8_loadGame_96 : decode cX8_loadGame 96 = .ok (.aload_n 0, 1) := by decide +kernel
theorem dX8_loadGame_97 : decode cX8_loadGame 97 = .ok (.getfield 23, 3) := by decide +kernel
theorem dX8_loadGame_100 : decode cX8_loadGame 100 = .ok (.getfield 111, 3) := by decide +kernel
theorem dX8_loadGame_103 : decode cX8_loadGame 103 = .ok (.ireturn, 1) := by decide +kernel
theorem dX8_errorCode_0 : decode cX8_errorCode 0 = .ok (.aload_n 0, 1) := by decide +kernel
theorem dX8_errorCode_1 : decode cX8_errorCode 1 = .ok (.getfield 10, 3) := by decide +kernel
theorem dX8_errorCode_4 : decode cX8_errorCode 4 = .ok (.getfield 114, 3) := by decide +kernel
theorem dX8_errorCode_7 : decode cX8_errorCode 7 = .ok (.ireturn, 1) := by decide +kernel
theorem dX8_errorOffset_0 : decode cX8_errorOffset 0 = .ok (.aload_n 0, 1) := by decide +kernel
theorem dX8_errorOffset_1 : decode cX8_errorOffset 1 = .ok (.getfield 10, 3) := by decide +kernel
theorem dX8_errorOffset_4 : decode cX8_errorOffset 4 = .ok (.getfield 117, 3) := by decide +kernel
theorem dX8_errorOffset_7 : decode cX8_errorOffset 7 = .ok (.ireturn, 1) := by decide +kernel
theorem dX8_turn_0 : decode cX8_turn 0 = .ok (.aload_n 0, 1) := by decide +kernel
theorem dX8_turn_1 : decode cX8_turn 1 = .ok (.getfield 31, 3) := by decide +kernel
theorem dX8_turn_4 : decode cX8_turn 4 = .ok (.getfield 120, 3) := by decide +kernel
theorem dX8_turn_7 : decode cX8_turn 7 = .ok (.ireturn, 1) := by decide +kernel
theorem dX8_limitAngle_0 : decode cX8_limitAngle 0 = .ok (.aload_n 0, 1) := by decide +kernel
theorem dX8_limitAngle_1 : decode cX8_limitAngle 1 = .ok (.getfield 31, 3) := by decide +kernel
theorem dX8_limitAngle_4 : decode cX8_limitAngle 4 = .ok (.getfield 123, 3) := by decide +kernel
theorem dX8_limitAngle_7 : decode cX8_limitAngle 7 = .ok (.ireturn, 1) := by decide +kernel
theorem dX8_tollBox_0 : decode cX8_tollBox 0 = .ok (.aload_n 0, 1) := by decide +kernel
theorem dX8_tollBox_1 : decode cX8_tollBox 1 = .ok (.getfield 31, 3) := by decide +kernel
theorem dX8_tollBox_4 : decode cX8_tollBox 4 = .ok (.getfield 126, 3) := by decide +kernel
theorem dX8_tollBox_7 : decode cX8_tollBox 7 = .ok (.ireturn, 1) := by decide +kernel
theorem dX8_groundCoins_0 : decode cX8_groundCoins 0 = .ok (.aload_n 0, 1) := by decide +kernel
theorem dX8_groundCoins_1 : decode cX8_groundCoins 1 = .ok (.getfield 31, 3) := by decide +kernel
theorem dX8_groundCoins_4 : decode cX8_groundCoins 4 = .ok (.getfield 129, 3) := by decide +kernel
theorem dX8_groundCoins_7 : decode cX8_groundCoins 7 = .ok (.iload_n 1, 1) := by decide +kernel
theorem dX8_groundCoins_8 : decode cX8_groundCoins 8 = .ok (.invokestatic 132, 3) := by decide +kernel
theorem dX8_groundCoins_11 : decode cX8_groundCoins 11 = .ok (.invokestatic 136, 3) := by decide +kernel
theorem dX8_groundCoins_14 : decode cX8_groundCoins 14 = .ok (.ireturn, 1) := by decide +kernel
theorem dX8_kingCount_0 : decode cX8_kingCount 0 = .ok (.aload_n 0, 1) := by decide +kernel
theorem dX8_kingCount_1 : decode cX8_kingCount 1 = .ok (.getfield 23, 3) := by decide +kernel
theorem dX8_kingCount_4 : decode cX8_kingCount 4 = .ok (.invokevirtual 140, 3) := by decide +kernel
theorem dX8_kingCount_7 : decode cX8_kingCount 7 = .ok (.ireturn, 1) := by decide +kernel
theorem dX8_bankCount_0 : decode cX8_bankCount 0 = .ok (.aload_n 0, 1) := by decide +kernel
theorem dX8_bankCount_1 : decode cX8_bankCount 1 = .ok (.getfield 31, 3) := by decide +kernel
theorem dX8_bankCount_4 : decode cX8_bankCount 4 = .ok (.iload_n 1, 1) := by decide +kernel
theorem dX8_bankCount_5 : decode cX8_bankCount 5 = .ok (.invokestatic 132, 3) := by decide +kernel
theorem dX8_bankCount_8 : decode cX8_bankCount 8 = .ok (.invokevirtual 144, 3) := by decide +kernel
theorem dX8_bankCount_11 : decode cX8_bankCount 11 = .ok (.ireturn, 1) := by decide +kernel
theorem dX8_isKing_0 : decode cX8_isKing 0 = .ok (.aload_n 0, 1) := by decide +kernel
theorem dX8_isKing_1 : decode cX8_isKing 1 = .ok (.iload_n 1, 1) := by decide +kernel
theorem dX8_isKing_2 : decode cX8_isKing 2 = .ok (.invokevirtual 148, 3) := by decide +kernel
theorem dX8_isKing_5 : decode cX8_isKing 5 = .ok (.aload_n 0, 1) := by decide +kernel
theorem dX8_isKing_6 : decode cX8_isKing 6 = .ok (.getfield 23, 3) := by decide +kernel
theorem dX8_isKing_9 : decode cX8_isKing 9 = .ok (.iload_n 1, 1) := by decide +kernel
theorem dX8_isKing_10 : decode cX8_isKing 10 = .ok (.invokevirtual 151, 3) := by decide +kernel
theorem dX8_isKing_13 : decode cX8_isKing 13 = .ok (.ireturn, 1) := by decide +kernel
theorem dX8_isEast_0 : decode cX8_isEast 0 = .ok (.aload_n 0, 1) := by decide +kernel
theorem dX8_isEast_1 : decode cX8_isEast 1 = .ok (.iload_n 1, 1) := by decide +kernel
theorem dX8_isEast_2 : decode cX8_isEast 2 = .ok (.invokevirtual 148, 3) := by decide +kernel
theorem dX8_isEast_5 : decode cX8_isEast 5 = .ok (.aload_n 0, 1) := by decide +kernel
theorem dX8_isEast_6 : decode cX8_isEast 6 = .ok (.getfield 31, 3) := by decide +kernel
theorem dX8_isEast_9 : decode cX8_isEast 9 = .ok (.getfield 155, 3) := by decide +kernel
theorem dX8_isEast_12 : decode cX8_isEast 12 = .ok (.iload_n 1, 1) := by decide +kernel
theorem dX8_isEast_13 : decode cX8_isEast 13 = .ok (.invokestatic 136, 3) := by decide +kernel
theorem dX8_isEast_16 : decode cX8_isEast 16 = .ok (.iconst 1, 1) := by decide +kernel
theorem dX8_isEast_17 : decode cX8_isEast 17 = .ok (.if_icmp .ne 7, 3) := by decide +kernel
theorem dX8_isEast_20 : decode cX8_isEast 20 = .ok (.iconst 1, 1) := by decide +kernel
theorem dX8_isEast_21 : decode cX8_isEast 21 = .ok (.goto 4, 3) := by decide +kernel
theorem dX8_isEast_24 : decode cX8_isEast 24 = .ok (.iconst 0, 1) := by decide +kernel
theorem dX8_isEast_25 : decode cX8_isEast 25 = .ok (.ireturn, 1) := by decide +kernel
theorem dX8_coins_0 : decode cX8_coins 0 = .ok (.aload_n 0, 1) := by decide +kernel
theorem dX8_coins_1 : decode cX8_coins 1 = .ok (.iload_n 1, 1) := by decide +kernel
theorem dX8_coins_2 : decode cX8_coins 2 = .ok (.invokevirtual 148, 3) := by decide +kernel
theorem dX8_coins_5 : decode cX8_coins 5 = .ok (.aload_n 0, 1) := by decide +kernel
theorem dX8_coins_6 : decode cX8_coins 6 = .ok (.getfield 31, 3) := by decide +kernel
theorem dX8_coins_9 : decode cX8_coins 9 = .ok (.getfield 158, 3) := by decide +kernel
theorem dX8_coins_12 : decode cX8_coins 12 = .ok (.iload_n 1, 1) := by decide +kernel
theorem dX8_coins_13 : decode cX8_coins 13 = .ok (.invokestatic 136, 3) := by decide +kernel
theorem dX8_coins_16 : decode cX8_coins 16 = .ok (.ireturn, 1) := by decide +kernel
theorem dX8_rags_0 : decode cX8_rags 0 = .ok (.aload_n 0, 1) := by decide +kernel
theorem dX8_rags_1 : decode cX8_rags 1 = .ok (.iload_n 1, 1) := by decide +kernel
theorem dX8_rags_2 : decode cX8_rags 2 = .ok (.invokevirtual 148, 3) := by decide +kernel
theorem dX8_rags_5 : decode cX8_rags 5 = .ok (.aload_n 0, 1) := by decide +kernel
theorem dX8_rags_6 : decode cX8_rags 6 = .ok (.getfield 31, 3) := by decide +kernel
theorem dX8_rags_9 : decode cX8_rags 9 = .ok (.getfield 164, 3) := by decide +kernel
theorem dX8_rags_12 : decode cX8_rags 12 = .ok (.iload_n 1, 1) := by decide +kernel
theorem dX8_rags_13 : decode cX8_rags 13 = .ok (.invokestatic 136, 3) := by decide +kernel
theorem dX8_rags_16 : decode cX8_rags 16 = .ok (.ireturn, 1) := by decide +kernel
theorem dX8_wearer_0 : decode cX8_wearer 0 = .ok (.aload_n 0, 1) := by decide +kernel
theorem dX8_wearer_1 : decode cX8_wearer 1 = .ok (.iload_n 1, 1) := by decide +kernel
theorem dX8_wearer_2 : decode cX8_wearer 2 = .ok (.invokevirtual 148, 3) := by decide +kernel
theorem dX8_wearer_5 : decode cX8_wearer 5 = .ok (.aload_n 0, 1) := by decide +kernel
theorem dX8_wearer_6 : decode cX8_wearer 6 = .ok (.getfield 31, 3) := by decide +kernel
theorem dX8_wearer_9 : decode cX8_wearer 9 = .ok (.iload_n 1, 1) := by decide +kernel
theorem dX8_wearer_10 : decode cX8_wearer 10 = .ok (.invokevirtual 170, 3) := by decide +kernel
theorem dX8_wearer_13 : decode cX8_wearer 13 = .ok (.ireturn, 1) := by decide +kernel
theorem dX8_crossings_0 : decode cX8_crossings 0 = .ok (.aload_n 0, 1) := by decide +kernel
theorem dX8_crossings_1 : decode cX8_crossings 1 = .ok (.iload_n 1, 1) := by decide +kernel
theorem dX8_crossings_2 : decode cX8_crossings 2 = .ok (.invokevirtual 148, 3) := by decide +kernel
theorem dX8_crossings_5 : decode cX8_crossings 5 = .ok (.aload_n 0, 1) := by decide +kernel
theorem dX8_crossings_6 : decode cX8_crossings 6 = .ok (.getfield 31, 3) := by decide +kernel
theorem dX8_crossings_9 : decode cX8_crossings 9 = .ok (.getfield 173, 3) := by decide +kernel
theorem dX8_crossings_12 : decode cX8_crossings 12 = .ok (.iload_n 1, 1) := by decide +kernel
theorem dX8_crossings_13 : decode cX8_crossings 13 = .ok (.invokestatic 136, 3) := by decide +kernel
theorem dX8_crossings_16 : decode cX8_crossings 16 = .ok (.ireturn, 1) := by decide +kernel
theorem dX8_royalHolder_0 : decode cX8_royalHolder 0 = .ok (.aload_n 0, 1) := by decide +kernel
theorem dX8_royalHolder_1 : decode cX8_royalHolder 1 = .ok (.iload_n 1, 1) := by decide +kernel
theorem dX8_royalHolder_2 : decode cX8_royalHolder 2 = .ok (.invokevirtual 211, 3) := by decide +kernel
theorem dX8_royalHolder_5 : decode cX8_royalHolder 5 = .ok (.aload_n 0, 1) := by decide +kernel
theorem dX8_royalHolder_6 : decode cX8_royalHolder 6 = .ok (.getfield 31, 3) := by decide +kernel
theorem dX8_royalHolder_9 : decode cX8_royalHolder 9 = .ok (.getfield 214, 3) := by decide +kernel
theorem dX8_royalHolder_12 : decode cX8_royalHolder 12 = .ok (.iload_n 1, 1) := by decide +kernel
theorem dX8_royalHolder_13 : decode cX8_royalHolder 13 = .ok (.invokestatic 136, 3) := by decide +kernel
theorem dX8_royalHolder_16 : decode cX8_royalHolder 16 = .ok (.ireturn, 1) := by decide +kernel
theorem dX8_isRoyalCoinEast_0 : decode cX8_isRoyalCoinEast 0 = .ok (.aload_n 0, 1) := by decide +kernel
theorem dX8_isRoyalCoinEast_1 : decode cX8_isRoyalCoinEast 1 = .ok (.iload_n 1, 1) := by decide +kernel
theorem dX8_isRoyalCoinEast_2 : decode cX8_isRoyalCoinEast 2 = .ok (.invokevirtual 211, 3) := by decide +kernel
theorem dX8_isRoyalCoinEast_5 : decode cX8_isRoyalCoinEast 5 = .ok (.aload_n 0, 1) := by decide +kernel
theorem dX8_isRoyalCoinEast_6 : decode cX8_isRoyalCoinEast 6 = .ok (.getfield 31, 3) := by decide +kernel
theorem dX8_isRoyalCoinEast_9 : decode cX8_isRoyalCoinEast 9 = .ok (.iload_n 1, 1) := by decide +kernel
theorem dX8_isRoyalCoinEast_10 : decode cX8_isRoyalCoinEast 10 = .ok (.invokevirtual 217, 3) := by decide +kernel
theorem dX8_isRoyalCoinEast_13 : decode cX8_isRoyalCoinEast 13 = .ok (.iconst 1, 1) := by decide +kernel
theorem dX8_isRoyalCoinEast_14 : decode cX8_isRoyalCoinEast 14 = .ok (.if_icmp .ne 7, 3) := by decide +kernel
theorem dX8_isRoyalCoinEast_17 : decode cX8_isRoyalCoinEast 17 = .ok (.iconst 1, 1) := by decide +kernel
theorem dX8_isRoyalCoinEast_18 : decode cX8_isRoyalCoinEast 18 = .ok (.goto 4, 3) := by decide +kernel
theorem dX8_isRoyalCoinEast_21 : decode cX8_isRoyalCoinEast 21 = .ok (.iconst 0, 1) := by decide +kernel
theorem dX8_isRoyalCoinEast_22 : decode cX8_isRoyalCoinEast 22 = .ok (.ireturn, 1) := by decide +kernel
theorem dX8_isCounted_0 : decode cX8_isCounted 0 = .ok (.aload_n 0, 1) := by decide +kernel
theorem dX8_isCounted_1 : decode cX8_isCounted 1 = .ok (.iload_n 1, 1) := by decide +kernel
theorem dX8_isCounted_2 : decode cX8_isCounted 2 = .ok (.invokevirtual 211, 3) := by decide +kernel
theorem dX8_isCounted_5 : decode cX8_isCounted 5 = .ok (.aload_n 0, 1) := by decide +kernel
theorem dX8_isCounted_6 : decode cX8_isCounted 6 = .ok (.getfield 31, 3) := by decide +kernel
theorem dX8_isCounted_9 : decode cX8_isCounted 9 = .ok (.getfield 220, 3) := by decide +kernel
theorem dX8_isCounted_12 : decode cX8_isCounted 12 = .ok (.iload_n 1, 1) := by decide +kernel
theorem dX8_isCounted_13 : decode cX8_isCounted 13 = .ok (.invokestatic 136, 3) := by decide +kernel
theorem dX8_isCounted_16 : decode cX8_isCounted 16 = .ok (.iconst 1, 1) := by decide +kernel
theorem dX8_isCounted_17 : decode cX8_isCounted 17 = .ok (.if_icmp .ne 7, 3) := by decide +kernel
theorem dX8_isCounted_20 : decode cX8_isCounted 20 = .ok (.iconst 1, 1) := by decide +kernel
theorem dX8_isCounted_21 : decode cX8_isCounted 21 = .ok (.goto 4, 3) := by decide +kernel
theorem dX8_isCounted_24 : decode cX8_isCounted 24 = .ok (.iconst 0, 1) := by decide +kernel
theorem dX8_isCounted_25 : decode cX8_isCounted 25 = .ok (.ireturn, 1) := by decide +kernel
theorem dX8_royalCoins_0 : decode cX8_royalCoins 0 = .ok (.aload_n 0, 1) := by decide +kernel
theorem dX8_royalCoins_1 : decode cX8_royalCoins 1 = .ok (.iload_n 1, 1) := by decide +kernel
theorem dX8_royalCoins_2 : decode cX8_royalCoins 2 = .ok (.invokevirtual 148, 3) := by decide +kernel
theorem dX8_royalCoins_5 : decode cX8_royalCoins 5 = .ok (.aload_n 0, 1) := by decide +kernel
theorem dX8_royalCoins_6 : decode cX8_royalCoins 6 = .ok (.getfield 31, 3) := by decide +kernel
theorem dX8_royalCoins_9 : decode cX8_royalCoins 9 = .ok (.iload_n 1, 1) := by decide +kernel
theorem dX8_royalCoins_10 : decode cX8_royalCoins 10 = .ok (.invokevirtual 223, 3) := by decide +kernel
theorem dX8_royalCoins_13 : decode cX8_royalCoins 13 = .ok (.ireturn, 1) := by decide +kernel
theorem dX8_countedRoyalCoins_0 : decode cX8_countedRoyalCoins 0 = .ok (.aload_n 0, 1) := by decide +kernel
theorem dX8_countedRoyalCoins_1 : decode cX8_countedRoyalCoins 1 = .ok (.getfield 31, 3) := by decide +kernel
theorem dX8_countedRoyalCoins_4 : decode cX8_countedRoyalCoins 4 = .ok (.invokevirtual 226, 3) := by decide +kernel
theorem dX8_countedRoyalCoins_7 : decode cX8_countedRoyalCoins 7 = .ok (.ireturn, 1) := by decide +kernel
theorem dX8_queueLength_0 : decode cX8_queueLength 0 = .ok (.aload_n 0, 1) := by decide +kernel
theorem dX8_queueLength_1 : decode cX8_queueLength 1 = .ok (.getfield 31, 3) := by decide +kernel
theorem dX8_queueLength_4 : decode cX8_queueLength 4 = .ok (.iload_n 1, 1) := by decide +kernel
theorem dX8_queueLength_5 : decode cX8_queueLength 5 = .ok (.invokestatic 132, 3) := by decide +kernel
theorem dX8_queueLength_8 : decode cX8_queueLength 8 = .ok (.invokevirtual 229, 3) := by decide +kernel
theorem dX8_queueLength_11 : decode cX8_queueLength 11 = .ok (.getfield 233, 3) := by decide +kernel
theorem dX8_queueLength_14 : decode cX8_queueLength 14 = .ok (.ireturn, 1) := by decide +kernel
theorem dX8_queued_0 : decode cX8_queued 0 = .ok (.aload_n 0, 1) := by decide +kernel
theorem dX8_queued_1 : decode cX8_queued 1 = .ok (.getfield 31, 3) := by decide +kernel
theorem dX8_queued_4 : decode cX8_queued 4 = .ok (.iload_n 1, 1) := by decide +kernel
theorem dX8_queued_5 : decode cX8_queued 5 = .ok (.invokestatic 132, 3) := by decide +kernel
theorem dX8_queued_8 : decode cX8_queued 8 = .ok (.invokevirtual 229, 3) := by decide +kernel
theorem dX8_queued_11 : decode cX8_queued 11 = .ok (.iload_n 2, 1) := by decide +kernel
theorem dX8_queued_12 : decode cX8_queued 12 = .ok (.invokevirtual 238, 3) := by decide +kernel
theorem dX8_queued_15 : decode cX8_queued 15 = .ok (.ireturn, 1) := by decide +kernel
theorem dX8_offer_0 : decode cX8_offer 0 = .ok (.aload_n 0, 1) := by decide +kernel
theorem dX8_offer_1 : decode cX8_offer 1 = .ok (.iload_n 1, 1) := by decide +kernel
theorem dX8_offer_2 : decode cX8_offer 2 = .ok (.invokevirtual 148, 3) := by decide +kernel
theorem dX8_offer_5 : decode cX8_offer 5 = .ok (.aload_n 0, 1) := by decide +kernel
theorem dX8_offer_6 : decode cX8_offer 6 = .ok (.getfield 31, 3) := by decide +kernel
theorem dX8_offer_9 : decode cX8_offer 9 = .ok (.iload_n 1, 1) := by decide +kernel
theorem dX8_offer_10 : decode cX8_offer 10 = .ok (.invokevirtual 241, 3) := by decide +kernel
theorem dX8_offer_13 : decode cX8_offer 13 = .ok (.ireturn, 1) := by decide +kernel
theorem dX8_coinGap_0 : decode cX8_coinGap 0 = .ok (.aload_n 0, 1) := by decide +kernel
theorem dX8_coinGap_1 : decode cX8_coinGap 1 = .ok (.getfield 31, 3) := by decide +kernel
theorem dX8_coinGap_4 : decode cX8_coinGap 4 = .ok (.invokevirtual 279, 3) := by decide +kernel
theorem dX8_coinGap_7 : decode cX8_coinGap 7 = .ok (.aload_n 0, 1) := by decide +kernel
theorem dX8_coinGap_8 : decode cX8_coinGap 8 = .ok (.getfield 23, 3) := by decide +kernel
theorem dX8_coinGap_11 : decode cX8_coinGap 11 = .ok (.invokevirtual 282, 3) := by decide +kernel
theorem dX8_coinGap_14 : decode cX8_coinGap 14 = .ok (.isub, 1) := by decide +kernel
theorem dX8_coinGap_15 : decode cX8_coinGap 15 = .ok (.invokestatic 283, 3) := by decide +kernel
theorem dX8_coinGap_18 : decode cX8_coinGap 18 = .ok (.ireturn, 1) := by decide +kernel
theorem dX8_dropCoins_0 : decode cX8_dropCoins 0 = .ok (.aload_n 0, 1) := by decide +kernel
theorem dX8_dropCoins_1 : decode cX8_dropCoins 1 = .ok (.getstatic 286, 3) := by decide +kernel
theorem dX8_dropCoins_4 : decode cX8_dropCoins 4 = .ok (.iload_n 1, 1) := by decide +kernel
theorem dX8_dropCoins_5 : decode cX8_dropCoins 5 = .ok (.iload_n 2, 1) := by decide +kernel
theorem dX8_dropCoins_6 : decode cX8_dropCoins 6 = .ok (.invokevirtual 292, 3) := by decide +kernel
theorem dX8_dropCoins_9 : decode cX8_dropCoins 9 = .ok (.aload_n 0, 1) := by decide +kernel
theorem dX8_dropCoins_10 : decode cX8_dropCoins 10 = .ok (.getfield 31, 3) := by decide +kernel
theorem dX8_dropCoins_13 : decode cX8_dropCoins 13 = .ok (.iload_n 1, 1) := by decide +kernel
theorem dX8_dropCoins_14 : decode cX8_dropCoins 14 = .ok (.iload_n 2, 1) := by decide +kernel
theorem dX8_dropCoins_15 : decode cX8_dropCoins 15 = .ok (.invokevirtual 296, 3) := by decide +kernel
theorem dX8_dropCoins_18 : decode cX8_dropCoins 18 = .ok (.ireturn, 1) := by decide +kernel
theorem dX8_pickCoins_0 : decode cX8_pickCoins 0 = .ok (.aload_n 0, 1) := by decide +kernel
theorem dX8_pickCoins_1 : decode cX8_pickCoins 1 = .ok (.getstatic 299, 3) := by decide +kernel
theorem dX8_pickCoins_4 : decode cX8_pickCoins 4 = .ok (.iload_n 1, 1) := by decide +kernel
theorem dX8_pickCoins_5 : decode cX8_pickCoins 5 = .ok (.iload_n 2, 1) := by decide +kernel
theorem dX8_pickCoins_6 : decode cX8_pickCoins 6 = .ok (.invokevirtual 292, 3) := by decide +kernel
theorem dX8_pickCoins_9 : decode cX8_pickCoins 9 = .ok (.aload_n 0, 1) := by decide +kernel
theorem dX8_pickCoins_10 : decode cX8_pickCoins 10 = .ok (.getfield 31, 3) := by decide +kernel
theorem dX8_pickCoins_13 : decode cX8_pickCoins 13 = .ok (.iload_n 1, 1) := by decide +kernel
theorem dX8_pickCoins_14 : decode cX8_pickCoins 14 = .ok (.iload_n 2, 1) := by decide +kernel
theorem dX8_pickCoins_15 : decode cX8_pickCoins 15 = .ok (.invokevirtual 302, 3) := by decide +kernel
theorem dX8_pickCoins_18 : decode cX8_pickCoins 18 = .ok (.ireturn, 1) := by decide +kernel
theorem dX8_layRoyalCoin_0 : decode cX8_layRoyalCoin 0 = .ok (.aload_n 0, 1) := by decide +kernel
theorem dX8_layRoyalCoin_1 : decode cX8_layRoyalCoin 1 = .ok (.getstatic 305, 3) := by decide +kernel
theorem dX8_layRoyalCoin_4 : decode cX8_layRoyalCoin 4 = .ok (.iload_n 1, 1) := by decide +kernel
theorem dX8_layRoyalCoin_5 : decode cX8_layRoyalCoin 5 = .ok (.iload_n 2, 1) := by decide +kernel
theorem dX8_layRoyalCoin_6 : decode cX8_layRoyalCoin 6 = .ok (.invokevirtual 292, 3) := by decide +kernel
theorem dX8_layRoyalCoin_9 : decode cX8_layRoyalCoin 9 = .ok (.aload_n 0, 1) := by decide +kernel
theorem dX8_layRoyalCoin_10 : decode cX8_layRoyalCoin 10 = .ok (.getfield 31, 3) := by decide +kernel
theorem dX8_layRoyalCoin_13 : decode cX8_layRoyalCoin 13 = .ok (.iload_n 1, 1) := by decide +kernel
theorem dX8_layRoyalCoin_14 : decode cX8_layRoyalCoin 14 = .ok (.iload_n 2, 1) := by decide +kernel
theorem dX8_layRoyalCoin_15 : decode cX8_layRoyalCoin 15 = .ok (.invokevirtual 308, 3) := by decide +kernel
theorem dX8_layRoyalCoin_18 : decode cX8_layRoyalCoin 18 = .ok (.ireturn, 1) := by decide +kernel
theorem dX8_liftRoyalCoin_0 : decode cX8_liftRoyalCoin 0 = .ok (.aload_n 0, 1) := by decide +kernel
theorem dX8_liftRoyalCoin_1 : decode cX8_liftRoyalCoin 1 = .ok (.getstatic 311, 3) := by decide +kernel
theorem dX8_liftRoyalCoin_4 : decode cX8_liftRoyalCoin 4 = .ok (.iload_n 1, 1) := by decide +kernel
theorem dX8_liftRoyalCoin_5 : decode cX8_liftRoyalCoin 5 = .ok (.iload_n 2, 1) := by decide +kernel
theorem dX8_liftRoyalCoin_6 : decode cX8_liftRoyalCoin 6 = .ok (.invokevirtual 292, 3) := by decide +kernel
theorem dX8_liftRoyalCoin_9 : decode cX8_liftRoyalCoin 9 = .ok (.aload_n 0, 1) := by decide +kernel
theorem dX8_liftRoyalCoin_10 : decode cX8_liftRoyalCoin 10 = .ok (.getfield 31, 3) := by decide +kernel
theorem dX8_liftRoyalCoin_13 : decode cX8_liftRoyalCoin 13 = .ok (.iload_n 1, 1) := by decide +kernel
theorem dX8_liftRoyalCoin_14 : decode cX8_liftRoyalCoin 14 = .ok (.iload_n 2, 1) := by decide +kernel
theorem dX8_liftRoyalCoin_15 : decode cX8_liftRoyalCoin 15 = .ok (.invokevirtual 314, 3) := by decide +kernel
theorem dX8_liftRoyalCoin_18 : decode cX8_liftRoyalCoin 18 = .ok (.ireturn, 1) := by decide +kernel
theorem dX8_swapRags_0 : decode cX8_swapRags 0 = .ok (.aload_n 0, 1) := by decide +kernel
theorem dX8_swapRags_1 : decode cX8_swapRags 1 = .ok (.getstatic 317, 3) := by decide +kernel
theorem dX8_swapRags_4 : decode cX8_swapRags 4 = .ok (.iload_n 1, 1) := by decide +kernel
theorem dX8_swapRags_5 : decode cX8_swapRags 5 = .ok (.iload_n 2, 1) := by decide +kernel
theorem dX8_swapRags_6 : decode cX8_swapRags 6 = .ok (.invokevirtual 292, 3) := by decide +kernel
theorem dX8_swapRags_9 : decode cX8_swapRags 9 = .ok (.aload_n 0, 1) := by decide +kernel
theorem dX8_swapRags_10 : decode cX8_swapRags 10 = .ok (.getfield 31, 3) := by decide +kernel
theorem dX8_swapRags_13 : decode cX8_swapRags 13 = .ok (.iload_n 1, 1) := by decide +kernel
theorem dX8_swapRags_14 : decode cX8_swapRags 14 = .ok (.iload_n 2, 1) := by decide +kernel
theorem dX8_swapRags_15 : decode cX8_swapRags 15 = .ok (.invokevirtual 320, 3) := by decide +kernel
theorem dX8_swapRags_18 : decode cX8_swapRags 18 = .ok (.ireturn, 1) := by decide +kernel
theorem dX8_joinQueue_0 : decode cX8_joinQueue 0 = .ok (.aload_n 0, 1) := by decide +kernel
theorem dX8_joinQueue_1 : decode cX8_joinQueue 1 = .ok (.getstatic 323, 3) := by decide +kernel
theorem dX8_joinQueue_4 : decode cX8_joinQueue 4 = .ok (.iload_n 1, 1) := by decide +kernel
theorem dX8_joinQueue_5 : decode cX8_joinQueue 5 = .ok (.iload_n 2, 1) := by decide +kernel
theorem dX8_joinQueue_6 : decode cX8_joinQueue 6 = .ok (.invokevirtual 292, 3) := by decide +kernel
theorem dX8_joinQueue_9 : decode cX8_joinQueue 9 = .ok (.aload_n 0, 1) := by decide +kernel
theorem dX8_joinQueue_10 : decode cX8_joinQueue 10 = .ok (.getfield 31, 3) := by decide +kernel
theorem dX8_joinQueue_13 : decode cX8_joinQueue 13 = .ok (.iload_n 1, 1) := by decide +kernel
theorem dX8_joinQueue_14 : decode cX8_joinQueue 14 = .ok (.iload_n 2, 1) := by decide +kernel
theorem dX8_joinQueue_15 : decode cX8_joinQueue 15 = .ok (.invokevirtual 326, 3) := by decide +kernel
theorem dX8_joinQueue_18 : decode cX8_joinQueue 18 = .ok (.ireturn, 1) := by decide +kernel
theorem dX8_quitQueue_0 : decode cX8_quitQueue 0 = .ok (.aload_n 0, 1) := by decide +kernel
theorem dX8_quitQueue_1 : decode cX8_quitQueue 1 = .ok (.getstatic 329, 3) := by decide +kernel
theorem dX8_quitQueue_4 : decode cX8_quitQueue 4 = .ok (.iload_n 1, 1) := by decide +kernel
theorem dX8_quitQueue_5 : decode cX8_quitQueue 5 = .ok (.iconst 0, 1) := by decide +kernel
theorem dX8_quitQueue_6 : decode cX8_quitQueue 6 = .ok (.invokevirtual 292, 3) := by decide +kernel
theorem dX8_quitQueue_9 : decode cX8_quitQueue 9 = .ok (.aload_n 0, 1) := by decide +kernel
theorem dX8_quitQueue_10 : decode cX8_quitQueue 10 = .ok (.getfield 31, 3) := by decide +kernel
theorem dX8_quitQueue_13 : decode cX8_quitQueue 13 = .ok (.iload_n 1, 1) := by decide +kernel
theorem dX8_quitQueue_14 : decode cX8_quitQueue 14 = .ok (.invokevirtual 332, 3) := by decide +kernel
theorem dX8_quitQueue_17 : decode cX8_quitQueue 17 = .ok (.ireturn, 1) := by decide +kernel
theorem dX8_setPride_0 : decode cX8_setPride 0 = .ok (.aload_n 0, 1) := by decide +kernel
theorem dX8_setPride_1 : decode cX8_setPride 1 = .ok (.getstatic 335, 3) := by decide +kernel
theorem dX8_setPride_4 : decode cX8_setPride 4 = .ok (.iload_n 1, 1) := by decide +kernel
theorem dX8_setPride_5 : decode cX8_setPride 5 = .ok (.iload_n 2, 1) := by decide +kernel
theorem dX8_setPride_6 : decode cX8_setPride 6 = .ok (.invokevirtual 292, 3) := by decide +kernel
theorem dX8_setPride_9 : decode cX8_setPride 9 = .ok (.aload_n 0, 1) := by decide +kernel
theorem dX8_setPride_10 : decode cX8_setPride 10 = .ok (.getfield 31, 3) := by decide +kernel
theorem dX8_setPride_13 : decode cX8_setPride 13 = .ok (.iload_n 1, 1) := by decide +kernel
theorem dX8_setPride_14 : decode cX8_setPride 14 = .ok (.iload_n 2, 1) := by decide +kernel
theorem dX8_setPride_15 : decode cX8_setPride 15 = .ok (.invokevirtual 338, 3) := by decide +kernel
theorem dX8_setPride_18 : decode cX8_setPride 18 = .ok (.ireturn, 1) := by decide +kernel
theorem dX8_passTurns_0 : decode cX8_passTurns 0 = .ok (.aload_n 0, 1) := by decide +kernel
theorem dX8_passTurns_1 : decode cX8_passTurns 1 = .ok (.getstatic 341, 3) := by decide +kernel
theorem dX8_passTurns_4 : decode cX8_passTurns 4 = .ok (.iload_n 1, 1) := by decide +kernel
theorem dX8_passTurns_5 : decode cX8_passTurns 5 = .ok (.iconst 0, 1) := by decide +kernel
theorem dX8_passTurns_6 : decode cX8_passTurns 6 = .ok (.invokevirtual 292, 3) := by decide +kernel
theorem dX8_passTurns_9 : decode cX8_passTurns 9 = .ok (.aload_n 0, 1) := by decide +kernel
theorem dX8_passTurns_10 : decode cX8_passTurns 10 = .ok (.getfield 31, 3) := by decide +kernel
theorem dX8_passTurns_13 : decode cX8_passTurns 13 = .ok (.iload_n 1, 1) := by decide +kernel
theorem dX8_passTurns_14 : decode cX8_passTurns 14 = .ok (.invokevirtual 344, 3) := by decide +kernel
theorem dX8_passTurns_17 : decode cX8_passTurns 17 = .ok (.ireturn, 1) := by decide +kernel
theorem dX8_requirePerson_0 : decode cX8_requirePerson 0 = .ok (.aload_n 0, 1) := by decide +kernel
theorem dX8_requirePerson_1 : decode cX8_requirePerson 1 = .ok (.getfield 23, 3) := by decide +kernel
theorem dX8_requirePerson_4 : decode cX8_requirePerson 4 = .ok (.iload_n 1, 1) := by decide +kernel
theorem dX8_requirePerson_5 : decode cX8_requirePerson 5 = .ok (.invokevirtual 385, 3) := by decide +kernel
theorem dX8_requirePerson_8 : decode cX8_requirePerson 8 = .ok (.ifCond .ne 14, 3) := by decide +kernel
theorem dX8_requirePerson_11 : decode cX8_requirePerson 11 = .ok (.new 247, 3) := by decide +kernel
theorem dX8_requirePerson_14 : decode cX8_requirePerson 14 = .ok (.dup, 1) := by decide +kernel
theorem dX8_requirePerson_15 : decode cX8_requirePerson 15 = .ok (.ldc_w 388, 3) := by decide +kernel
theorem dX8_requirePerson_18 : decode cX8_requirePerson 18 = .ok (.invokespecial 251, 3) := by decide +kernel
theorem dX8_requirePerson_21 : decode cX8_requirePerson 21 = .ok (.athrow, 1) := by decide +kernel
theorem dX8_requirePerson_22 : decode cX8_requirePerson 22 = .ok (.return_, 1) := by decide +kernel
theorem dX8_requireKing_0 : decode cX8_requireKing 0 = .ok (.aload_n 0, 1) := by decide +kernel
theorem dX8_requireKing_1 : decode cX8_requireKing 1 = .ok (.iload_n 1, 1) := by decide +kernel
theorem dX8_requireKing_2 : decode cX8_requireKing 2 = .ok (.invokevirtual 148, 3) := by decide +kernel
theorem dX8_requireKing_5 : decode cX8_requireKing 5 = .ok (.aload_n 0, 1) := by decide +kernel
theorem dX8_requireKing_6 : decode cX8_requireKing 6 = .ok (.getfield 23, 3) := by decide +kernel
theorem dX8_requireKing_9 : decode cX8_requireKing 9 = .ok (.iload_n 1, 1) := by decide +kernel
theorem dX8_requireKing_10 : decode cX8_requireKing 10 = .ok (.invokevirtual 151, 3) := by decide +kernel
theorem dX8_requireKing_13 : decode cX8_requireKing 13 = .ok (.ifCond .ne 14, 3) := by decide +kernel
theorem dX8_requireKing_16 : decode cX8_requireKing 16 = .ok (.new 179, 3) := by decide +kernel
theorem dX8_requireKing_19 : decode cX8_requireKing 19 = .ok (.dup, 1) := by decide +kernel
theorem dX8_requireKing_20 : decode cX8_requireKing 20 = .ok (.ldc_w 390, 3) := by decide +kernel
theorem dX8_requireKing_23 : decode cX8_requireKing 23 = .ok (.invokespecial 183, 3) := by decide +kernel
theorem dX8_requireKing_26 : decode cX8_requireKing 26 = .ok (.athrow, 1) := by decide +kernel
theorem dX8_requireKing_27 : decode cX8_requireKing 27 = .ok (.return_, 1) := by decide +kernel
theorem dX8_requireLength_0 : decode cX8_requireLength 0 = .ok (.iload_n 1, 1) := by decide +kernel
theorem dX8_requireLength_1 : decode cX8_requireLength 1 = .ok (.ifCond .lt 14, 3) := by decide +kernel
theorem dX8_requireLength_4 : decode cX8_requireLength 4 = .ok (.iload_n 1, 1) := by decide +kernel
theorem dX8_requireLength_5 : decode cX8_requireLength 5 = .ok (.aload_n 0, 1) := by decide +kernel
theorem dX8_requireLength_6 : decode cX8_requireLength 6 = .ok (.getfield 10, 3) := by decide +kernel
theorem dX8_requireLength_9 : decode cX8_requireLength 9 = .ok (.getfield 73, 3) := by decide +kernel
theorem dX8_requireLength_12 : decode cX8_requireLength 12 = .ok (.if_icmp .le 14, 3) := by decide +kernel
theorem dX8_requireLength_15 : decode cX8_requireLength 15 = .ok (.new 179, 3) := by decide +kernel
theorem dX8_requireLength_18 : decode cX8_requireLength 18 = .ok (.dup, 1) := by decide +kernel
theorem dX8_requireLength_19 : decode cX8_requireLength 19 = .ok (.ldc_w 392, 3) := by decide +kernel
theorem dX8_requireLength_22 : decode cX8_requireLength 22 = .ok (.invokespecial 183, 3) := by decide +kernel
theorem dX8_requireLength_25 : decode cX8_requireLength 25 = .ok (.athrow, 1) := by decide +kernel
theorem dX8_requireLength_26 : decode cX8_requireLength 26 = .ok (.return_, 1) := by decide +kernel
theorem dX8_allow_0 : decode cX8_allow 0 = .ok (.aload_n 0, 1) := by decide +kernel
theorem dX8_allow_1 : decode cX8_allow 1 = .ok (.getfield 31, 3) := by decide +kernel
theorem dX8_allow_4 : decode cX8_allow 4 = .ok (.aload_n 1, 1) := by decide +kernel
theorem dX8_allow_5 : decode cX8_allow 5 = .ok (.iload_n 2, 1) := by decide +kernel
theorem dX8_allow_6 : decode cX8_allow 6 = .ok (.iload_n 3, 1) := by decide +kernel
theorem dX8_allow_7 : decode cX8_allow 7 = .ok (.invokevirtual 396, 3) := by decide +kernel
theorem dX8_allow_10 : decode cX8_allow 10 = .ok (.istore 4, 2) := by decide +kernel
theorem dX8_allow_12 : decode cX8_allow 12 = .ok (.iload 4, 2) := by decide +kernel
theorem dX8_allow_14 : decode cX8_allow 14 = .ok (.iconst 1, 1) := by decide +kernel
theorem dX8_allow_15 : decode cX8_allow 15 = .ok (.if_icmp .ne 14, 3) := by decide +kernel
theorem dX8_allow_18 : decode cX8_allow 18 = .ok (.new 247, 3) := by decide +kernel
theorem dX8_allow_21 : decode cX8_allow 21 = .ok (.dup, 1) := by decide +kernel
theorem dX8_allow_22 : decode cX8_allow 22 = .ok (.ldc_w 388, 3) := by decide +kernel
theorem dX8_allow_25 : decode cX8_allow 25 = .ok (.invokespecial 251, 3) := by decide +kernel
theorem dX8_allow_28 : decode cX8_allow 28 = .ok (.athrow, 1) := by decide +kernel
theorem dX8_allow_29 : decode cX8_allow 29 = .ok (.iload 4, 2) := by decide +kernel
theorem dX8_allow_31 : decode cX8_allow 31 = .ok (.iconst 2, 1) := by decide +kernel
theorem dX8_allow_32 : decode cX8_allow 32 = .ok (.if_icmp .ne 14, 3) := by decide +kernel
theorem dX8_allow_35 : decode cX8_allow 35 = .ok (.new 179, 3) := by decide +kernel
theorem dX8_allow_38 : decode cX8_allow 38 = .ok (.dup, 1) := by decide +kernel
theorem dX8_allow_39 : decode cX8_allow 39 = .ok (.ldc_w 400, 3) := by decide +kernel
theorem dX8_allow_42 : decode cX8_allow 42 = .ok (.invokespecial 183, 3) := by decide +kernel
theorem dX8_allow_45 : decode cX8_allow 45 = .ok (.athrow, 1) := by decide +kernel
theorem dX8_allow_46 : decode cX8_allow 46 = .ok (.iload 4, 2) := by decide +kernel
theorem dX8_allow_48 : decode cX8_allow 48 = .ok (.iconst 3, 1) := by decide +kernel
theorem dX8_allow_49 : decode cX8_allow 49 = .ok (.if_icmp .ne 14, 3) := by decide +kernel
theorem dX8_allow_52 : decode cX8_allow 52 = .ok (.new 375, 3) := by decide +kernel
theorem dX8_allow_55 : decode cX8_allow 55 = .ok (.dup, 1) := by decide +kernel
theorem dX8_allow_56 : decode cX8_allow 56 = .ok (.ldc_w 402, 3) := by decide +kernel
theorem dX8_allow_59 : decode cX8_allow 59 = .ok (.invokespecial 379, 3) := by decide +kernel
theorem dX8_allow_62 : decode cX8_allow 62 = .ok (.athrow, 1) := by decide +kernel
theorem dX8_allow_63 : decode cX8_allow 63 = .ok (.aload_n 0, 1) := by decide +kernel
theorem dX8_allow_64 : decode cX8_allow 64 = .ok (.getfield 44, 3) := by decide +kernel
theorem dX8_allow_67 : decode cX8_allow 67 = .ok (.aload_n 0, 1) := by decide +kernel
theorem dX8_allow_68 : decode cX8_allow 68 = .ok (.getfield 31, 3) := by decide +kernel
theorem dX8_allow_71 : decode cX8_allow 71 = .ok (.invokevirtual 351, 3) := by decide +kernel
theorem dX8_allow_74 : decode cX8_allow 74 = .ok (.return_, 1) := by decide +kernel
theorem dX8_bankOf_0 : decode cX8_bankOf 0 = .ok (.iload_n 0, 1) := by decide +kernel
theorem dX8_bankOf_1 : decode cX8_bankOf 1 = .ok (.ifCond .eq 7, 3) := by decide +kernel
theorem dX8_bankOf_4 : decode cX8_bankOf 4 = .ok (.iconst 1, 1) := by decide +kernel
theorem dX8_bankOf_5 : decode cX8_bankOf 5 = .ok (.goto 4, 3) := by decide +kernel
theorem dX8_bankOf_8 : decode cX8_bankOf 8 = .ok (.iconst 0, 1) := by decide +kernel
theorem dX8_bankOf_9 : decode cX8_bankOf 9 = .ok (.ireturn, 1) := by decide +kernel
theorem dX8_at_0 : decode cX8_at 0 = .ok (.iload_n 1, 1) := by decide +kernel
theorem dX8_at_1 : decode cX8_at 1 = .ok (.ifCond .lt 15, 3) := by decide +kernel
theorem dX8_at_4 : decode cX8_at 4 = .ok (.iload_n 1, 1) := by decide +kernel
theorem dX8_at_5 : decode cX8_at 5 = .ok (.aload_n 0, 1) := by decide +kernel
theorem dX8_at_6 : decode cX8_at 6 = .ok (.arraylength, 1) := by decide +kernel
theorem dX8_at_7 : decode cX8_at 7 = .ok (.if_icmp .ge 9, 3) := by decide +kernel
theorem dX8_at_10 : decode cX8_at 10 = .ok (.aload_n 0, 1) := by decide +kernel
theorem dX8_at_11 : decode cX8_at 11 = .ok (.iload_n 1, 1) := by decide +kernel
theorem dX8_at_12 : decode cX8_at 12 = .ok (.iaload, 1) := by decide +kernel
theorem dX8_at_13 : decode cX8_at 13 = .ok (.goto 4, 3) := by decide +kernel
theorem dX8_at_16 : decode cX8_at 16 = .ok (.iconst 0, 1) := by decide +kernel
theorem dX8_at_17 : decode cX8_at 17 = .ok (.ireturn, 1) := by decide +kernel
theorem dX8_put_0 : decode cX8_put 0 = .ok (.iload_n 1, 1) := by decide +kernel
theorem dX8_put_1 : decode cX8_put 1 = .ok (.ifCond .lt 13, 3) := by decide +kernel
theorem dX8_put_4 : decode cX8_put 4 = .ok (.iload_n 1, 1) := by decide +kernel
theorem dX8_put_5 : decode cX8_put 5 = .ok (.aload_n 0, 1) := by decide +kernel
theorem dX8_put_6 : decode cX8_put 6 = .ok (.arraylength, 1) := by decide +kernel
theorem dX8_put_7 : decode cX8_put 7 = .ok (.if_icmp .ge 7, 3) := by decide +kernel
theorem dX8_put_10 : decode cX8_put 10 = .ok (.aload_n 0, 1) := by decide +kernel
theorem dX8_put_11 : decode cX8_put 11 = .ok (.iload_n 1, 1) := by decide +kernel
theorem dX8_put_12 : decode cX8_put 12 = .ok (.iload_n 2, 1) := by decide +kernel
theorem dX8_put_13 : decode cX8_put 13 = .ok (.iastore, 1) := by decide +kernel
theorem dX8_put_14 : decode cX8_put 14 = .ok (.return_, 1) := by decide +kernel
theorem dX8_add_0 : decode cX8_add 0 = .ok (.aload_n 0, 1) := by decide +kernel
theorem dX8_add_1 : decode cX8_add 1 = .ok (.iload_n 1, 1) := by decide +kernel
theorem dX8_add_2 : decode cX8_add 2 = .ok (.aload_n 0, 1) := by decide +kernel
theorem dX8_add_3 : decode cX8_add 3 = .ok (.iload_n 1, 1) := by decide +kernel
theorem dX8_add_4 : decode cX8_add 4 = .ok (.invokestatic 136, 3) := by decide +kernel
theorem dX8_add_7 : decode cX8_add 7 = .ok (.iload_n 2, 1) := by decide +kernel
theorem dX8_add_8 : decode cX8_add 8 = .ok (.iadd, 1) := by decide +kernel
theorem dX8_add_9 : decode cX8_add 9 = .ok (.invokestatic 404, 3) := by decide +kernel
theorem dX8_add_12 : decode cX8_add 12 = .ok (.return_, 1) := by decide +kernel
theorem dX8_copyRow_0 : decode cX8_copyRow 0 = .ok (.aload_n 0, 1) := by decide +kernel
theorem dX8_copyRow_1 : decode cX8_copyRow 1 = .ok (.iconst 0, 1) := by decide +kernel
theorem dX8_copyRow_2 : decode cX8_copyRow 2 = .ok (.aload_n 1, 1) := by decide +kernel
theorem dX8_copyRow_3 : decode cX8_copyRow 3 = .ok (.iconst 0, 1) := by decide +kernel
theorem dX8_copyRow_4 : decode cX8_copyRow 4 = .ok (.aload_n 0, 1) := by decide +kernel
theorem dX8_copyRow_5 : decode cX8_copyRow 5 = .ok (.arraylength, 1) := by decide +kernel
theorem dX8_copyRow_6 : decode cX8_copyRow 6 = .ok (.aload_n 1, 1) := by decide +kernel
theorem dX8_copyRow_7 : decode cX8_copyRow 7 = .ok (.arraylength, 1) := by decide +kernel
theorem dX8_copyRow_8 : decode cX8_copyRow 8 = .ok (.invokestatic 408, 3) := by decide +kernel
theorem dX8_copyRow_11 : decode cX8_copyRow 11 = .ok (.invokestatic 411, 3) := by decide +kernel
theorem dX8_copyRow_14 : decode cX8_copyRow 14 = .ok (.return_, 1) := by decide +kernel
theorem dX8_readHeader_0 : decode cX8_readHeader 0 = .ok (.aload_n 0, 1) := by decide +kernel
theorem dX8_readHeader_1 : decode cX8_readHeader 1 = .ok (.ldc_w 417, 3) := by decide +kernel
theorem dX8_readHeader_4 : decode cX8_readHeader 4 = .ok (.invokevirtual 419, 3) := by decide +kernel
theorem dX8_readHeader_7 : decode cX8_readHeader 7 = .ok (.aload_n 0, 1) := by decide +kernel
theorem dX8_readHeader_8 : decode cX8_readHeader 8 = .ok (.iconst 0, 1) := by decide +kernel
theorem dX8_readHeader_9 : decode cX8_readHeader 9 = .ok (.bipush 90, 2) := by decide +kernel
theorem dX8_readHeader_11 : decode cX8_readHeader 11 = .ok (.invokevirtual 422, 3) := by decide +kernel
theorem dX8_readHeader_14 : decode cX8_readHeader 14 = .ok (.istore_n 2, 1) := by decide +kernel
theorem dX8_readHeader_15 : decode cX8_readHeader 15 = .ok (.aload_n 0, 1) := by decide +kernel
theorem dX8_readHeader_16 : decode cX8_readHeader 16 = .ok (.iconst 0, 1) := by decide +kernel
theorem dX8_readHeader_17 : decode cX8_readHeader 17 = .ok (.bipush 9, 2) := by decide +kernel
theorem dX8_readHeader_19 : decode cX8_readHeader 19 = .ok (.invokevirtual 422, 3) := by decide +kernel
theorem dX8_readHeader_22 : decode cX8_readHeader 22 = .ok (.istore_n 3, 1) := by decide +kernel
theorem dX8_readHeader_23 : decode cX8_readHeader 23 = .ok (.aload_n 0, 1) := by decide +kernel
theorem dX8_readHeader_24 : decode cX8_readHeader 24 = .ok (.iconst 0, 1) := by decide +kernel
theorem dX8_readHeader_25 : decode cX8_readHeader 25 = .ok (.bipush 99, 2) := by decide +kernel
theorem dX8_readHeader_27 : decode cX8_readHeader 27 = .ok (.invokevirtual 422, 3) := by decide +kernel
theorem dX8_readHeader_30 : decode cX8_readHeader 30 = .ok (.istore 4, 2) := by decide +kernel
theorem dX8_readHeader_32 : decode cX8_readHeader 32 = .ok (.aload_n 0, 1) := by decide +kernel
theorem dX8_readHeader_33 : decode cX8_readHeader 33 = .ok (.iconst 0, 1) := by decide +kernel
theorem dX8_readHeader_34 : decode cX8_readHeader 34 = .ok (.bipush 99, 2) := by decide +kernel
theorem dX8_readHeader_36 : decode cX8_readHeader 36 = .ok (.invokevirtual 422, 3) := by decide +kernel
theorem dX8_readHeader_39 : decode cX8_readHeader 39 = .ok (.istore 5, 2) := by decide +kernel
theorem dX8_readHeader_41 : decode cX8_readHeader 41 = .ok (.aload_n 0, 1) := by decide +kernel
theorem dX8_readHeader_42 : decode cX8_readHeader 42 = .ok (.invokevirtual 425, 3) := by decide +kernel
theorem dX8_readHeader_45 : decode cX8_readHeader 45 = .ok (.aload_n 1, 1) := by decide +kernel
theorem dX8_readHeader_46 : decode cX8_readHeader 46 = .ok (.iload_n 2, 1) := by decide +kernel
theorem dX8_readHeader_47 : decode cX8_readHeader 47 = .ok (.iload_n 3, 1) := by decide +kernel
theorem dX8_readHeader_48 : decode cX8_readHeader 48 = .ok (.iload 4, 2) := by decide +kernel
theorem dX8_readHeader_50 : decode cX8_readHeader 50 = .ok (.iload 5, 2) := by decide +kernel
theorem dX8_readHeader_52 : decode cX8_readHeader 52 = .ok (.invokevirtual 59, 3) := by decide +kernel
theorem dX8_readHeader_55 : decode cX8_readHeader 55 = .ok (.return_, 1) := by decide +kernel
theorem dX8_readPeople_0 : decode cX8_readPeople 0 = .ok (.iconst 0, 1) := by decide +kernel
theorem dX8_readPeople_1 : decode cX8_readPeople 1 = .ok (.istore_n 2, 1) := by decide +kernel
theorem dX8_readPeople_2 : decode cX8_readPeople 2 = .ok (.iload_n 2, 1) := by decide +kernel
theorem dX8_readPeople_3 : decode cX8_readPeople 3 = .ok (.bipush 10, 2) := by decide +kernel
theorem dX8_readPeople_5 : decode cX8_readPeople 5 = .ok (.if_icmp .gt 35, 3) := by decide +kernel
theorem dX8_readPeople_8 : decode cX8_readPeople 8 = .ok (.aload_n 0, 1) := by decide +kernel
theorem dX8_readPeople_9 : decode cX8_readPeople 9 = .ok (.invokestatic 428, 3) := by decide +kernel
theorem dX8_readPeople_12 : decode cX8_readPeople 12 = .ok (.ifCond .eq 28, 3) := by decide +kernel
theorem dX8_readPeople_15 : decode cX8_readPeople 15 = .ok (.iload_n 2, 1) := by decide +kernel
theorem dX8_readPeople_16 : decode cX8_readPeople 16 = .ok (.bipush 10, 2) := by decide +kernel
theorem dX8_readPeople_18 : decode cX8_readPeople 18 = .ok (.if_icmp .ne 11, 3) := by decide +kernel
theorem dX8_readPeople_21 : decode cX8_readPeople 21 = .ok (.aload_n 0, 1) := by decide +kernel
theorem dX8_readPeople_22 : decode cX8_readPeople 22 = .ok (.iconst 3, 1) := by decide +kernel
theorem dX8_readPeople_23 : decode cX8_readPeople 23 = .ok (.invokevirtual 432, 3) := by decide +kernel
theorem dX8_readPeople_26 : decode cX8_readPeople 26 = .ok (.goto 8, 3) := by decide +kernel
theorem dX8_readPeople_29 : decode cX8_readPeople 29 = .ok (.aload_n 0, 1) := by decide +kernel
theorem dX8_readPeople_30 : decode cX8_readPeople 30 = .ok (.aload_n 1, 1) := by decide +kernel
theorem dX8_readPeople_31 : decode cX8_readPeople 31 = .ok (.invokestatic 435, 3) := by decide +kernel
theorem dX8_readPeople_34 : decode cX8_readPeople 34 = .ok (.iinc 2 1, 3) := by decide +kernel
theorem dX8_readPeople_37 : decode cX8_readPeople 37 = .ok (.goto (-35), 3) := by decide +kernel
theorem dX8_readPeople_40 : decode cX8_readPeople 40 = .ok (.aload_n 1, 1) := by decide +kernel
theorem dX8_readPeople_41 : decode cX8_readPeople 41 = .ok (.getfield 111, 3) := by decide +kernel
theorem dX8_readPeople_44 : decode cX8_readPeople 44 = .ok (.iconst 3, 1) := by decide +kernel
theorem dX8_readPeople_45 : decode cX8_readPeople 45 = .ok (.if_icmp .ge 8, 3) := by decide +kernel
theorem dX8_readPeople_48 : decode cX8_readPeople 48 = .ok (.aload_n 0, 1) := by decide +kernel
theorem dX8_readPeople_49 : decode cX8_readPeople 49 = .ok (.iconst 1, 1) := by decide +kernel
theorem dX8_readPeople_50 : decode cX8_readPeople 50 = .ok (.invokevirtual 432, 3) := by decide +kernel
theorem dX8_readPeople_53 : decode cX8_readPeople 53 = .ok (.return_, 1) := by decide +kernel
theorem dX8_isAtPerson_0 : decode cX8_isAtPerson 0 = .ok (.aload_n 0, 1) := by decide +kernel
theorem dX8_isAtPerson_1 : decode cX8_isAtPerson 1 = .ok (.ldc_w 438, 3) := by decide +kernel
theorem dX8_isAtPerson_4 : decode cX8_isAtPerson 4 = .ok (.invokevirtual 440, 3) := by decide +kernel
theorem dX8_isAtPerson_7 : decode cX8_isAtPerson 7 = .ok (.ifCond .ne 13, 3) := by decide +kernel
theorem dX8_isAtPerson_10 : decode cX8_isAtPerson 10 = .ok (.aload_n 0, 1) := by decide +kernel
theorem dX8_isAtPerson_11 : decode cX8_isAtPerson 11 = .ok (.ldc_w 444, 3) := by decide +kernel
theorem dX8_isAtPerson_14 : decode cX8_isAtPerson 14 = .ok (.invokevirtual 440, 3) := by decide +kernel
theorem dX8_isAtPerson_17 : decode cX8_isAtPerson 17 = .ok (.ifCond .eq 7, 3) := by decide +kernel
theorem dX8_isAtPerson_20 : decode cX8_isAtPerson 20 = .ok (.iconst 1, 1) := by decide +kernel
theorem dX8_isAtPerson_21 : decode cX8_isAtPerson 21 = .ok (.goto 4, 3) := by decide +kernel
theorem dX8_isAtPerson_24 : decode cX8_isAtPerson 24 = .ok (.iconst 0, 1) := by decide +kernel
theorem dX8_isAtPerson_25 : decode cX8_isAtPerson 25 = .ok (.ireturn, 1) := by decide +kernel
theorem dX8_readPerson_0 : decode cX8_readPerson 0 = .ok (.aload_n 0, 1) := by decide +kernel
theorem dX8_readPerson_1 : decode cX8_readPerson 1 = .ok (.ldc_w 444, 3) := by decide +kernel
theorem dX8_readPerson_4 : decode cX8_readPerson 4 = .ok (.ldc_w 438, 3) := by decide +kernel
theorem dX8_readPerson_7 : decode cX8_readPerson 7 = .ok (.invokevirtual 446, 3) := by decide +kernel
theorem dX8_readPerson_10 : decode cX8_readPerson 10 = .ok (.istore_n 2, 1) := by decide +kernel
theorem dX8_readPerson_11 : decode cX8_readPerson 11 = .ok (.aload_n 0, 1) := by decide +kernel
theorem dX8_readPerson_12 : decode cX8_readPerson 12 = .ok (.ldc_w 450, 3) := by decide +kernel
theorem dX8_readPerson_15 : decode cX8_readPerson 15 = .ok (.ldc_w 452, 3) := by decide +kernel
theorem dX8_readPerson_18 : decode cX8_readPerson 18 = .ok (.invokevirtual 446, 3) := by decide +kernel
theorem dX8_readPerson_21 : decode cX8_readPerson 21 = .ok (.istore_n 3, 1) := by decide +kernel
theorem dX8_readPerson_22 : decode cX8_readPerson 22 = .ok (.aload_n 0, 1) := by decide +kernel
theorem dX8_readPerson_23 : decode cX8_readPerson 23 = .ok (.iconst 0, 1) := by decide +kernel
theorem dX8_readPerson_24 : decode cX8_readPerson 24 = .ok (.sipush 999, 3) := by decide +kernel
theorem dX8_readPerson_27 : decode cX8_readPerson 27 = .ok (.invokevirtual 422, 3) := by decide +kernel
theorem dX8_readPerson_30 : decode cX8_readPerson 30 = .ok (.istore 4, 2) := by decide +kernel
theorem dX8_readPerson_32 : decode cX8_readPerson 32 = .ok (.aload_n 0, 1) := by decide +kernel
theorem dX8_readPerson_33 : decode cX8_readPerson 33 = .ok (.iconst 0, 1) := by decide +kernel
theorem dX8_readPerson_34 : decode cX8_readPerson 34 = .ok (.bipush 40, 2) := by decide +kernel
theorem dX8_readPerson_36 : decode cX8_readPerson 36 = .ok (.invokevirtual 422, 3) := by decide +kernel
theorem dX8_readPerson_39 : decode cX8_readPerson 39 = .ok (.istore 5, 2) := by decide +kernel
theorem dX8_readPerson_41 : decode cX8_readPerson 41 = .ok (.aload_n 0, 1) := by decide +kernel
theorem dX8_readPerson_42 : decode cX8_readPerson 42 = .ok (.iconst 0, 1) := by decide +kernel
theorem dX8_readPerson_43 : decode cX8_readPerson 43 = .ok (.bipush 50, 2) := by decide +kernel
theorem dX8_readPerson_45 : decode cX8_readPerson 45 = .ok (.invokevirtual 422, 3) := by decide +kernel
theorem dX8_readPerson_48 : decode cX8_readPerson 48 = .ok (.istore 6, 2) := by decide +kernel
theorem dX8_readPerson_50 : decode cX8_readPerson 50 = .ok (.aload_n 0, 1) := by decide +kernel
theorem dX8_readPerson_51 : decode cX8_readPerson 51 = .ok (.invokevirtual 425, 3) := by decide +kernel
theorem dX8_readPerson_54 : decode cX8_readPerson 54 = .ok (.aload_n 1, 1) := by decide +kernel
theorem dX8_readPerson_55 : decode cX8_readPerson 55 = .ok (.iload_n 2, 1) := by decide +kernel
theorem dX8_readPerson_56 : decode cX8_readPerson 56 = .ok (.iload_n 3, 1) := by decide +kernel
theorem dX8_readPerson_57 : decode cX8_readPerson 57 = .ok (.iload 4, 2) := by decide +kernel
theorem dX8_readPerson_59 : decode cX8_readPerson 59 = .ok (.iload 5, 2) := by decide +kernel
theorem dX8_readPerson_61 : decode cX8_readPerson 61 = .ok (.iload 6, 2) := by decide +kernel
theorem dX8_readPerson_63 : decode cX8_readPerson 63 = .ok (.invokevirtual 63, 3) := by decide +kernel
theorem dX8_readPerson_66 : decode cX8_readPerson 66 = .ok (.return_, 1) := by decide +kernel
theorem dX8_readBridges_0 : decode cX8_readBridges 0 = .ok (.iconst 0, 1) := by decide +kernel
theorem dX8_readBridges_1 : decode cX8_readBridges 1 = .ok (.istore_n 2, 1) := by decide +kernel
theorem dX8_readBridges_2 : decode cX8_readBridges 2 = .ok (.iload_n 2, 1) := by decide +kernel
theorem dX8_readBridges_3 : decode cX8_readBridges 3 = .ok (.iconst 4, 1) := by decide +kernel
theorem dX8_readBridges_4 : decode cX8_readBridges 4 = .ok (.if_icmp .gt 37, 3) := by decide +kernel
theorem dX8_readBridges_7 : decode cX8_readBridges 7 = .ok (.aload_n 0, 1) := by decide +kernel
theorem dX8_readBridges_8 : decode cX8_readBridges 8 = .ok (.ldc_w 454, 3) := by decide +kernel
theorem dX8_readBridges_11 : decode cX8_readBridges 11 = .ok (.invokevirtual 440, 3) := by decide +kernel
theorem dX8_readBridges_14 : decode cX8_readBridges 14 = .ok (.ifCond .eq 27, 3) := by decide +kernel
theorem dX8_readBridges_17 : decode cX8_readBridges 17 = .ok (.iload_n 2, 1) := by decide +kernel
theorem dX8_readBridges_18 : decode cX8_readBridges 18 = .ok (.iconst 4, 1) := by decide +kernel
theorem dX8_readBridges_19 : decode cX8_readBridges 19 = .ok (.if_icmp .ne 11, 3) := by decide +kernel
theorem dX8_readBridges_22 : decode cX8_readBridges 22 = .ok (.aload_n 0, 1) := by decide +kernel
theorem dX8_readBridges_23 : decode cX8_readBridges 23 = .ok (.iconst 3, 1) := by decide +kernel
theorem dX8_readBridges_24 : decode cX8_readBridges 24 = .ok (.invokevirtual 432, 3) := by decide +kernel
theorem dX8_readBridges_27 : decode cX8_readBridges 27 = .ok (.goto 8, 3) := by decide +kernel
theorem dX8_readBridges_30 : decode cX8_readBridges 30 = .ok (.aload_n 0, 1) := by decide +kernel
theorem dX8_readBridges_31 : decode cX8_readBridges 31 = .ok (.aload_n 1, 1) := by decide +kernel
theorem dX8_readBridges_32 : decode cX8_readBridges 32 = .ok (.invokestatic 456, 3) := by decide +kernel
theorem dX8_readBridges_35 : decode cX8_readBridges 35 = .ok (.iinc 2 1, 3) := by decide +kernel
theorem dX8_readBridges_38 : decode cX8_readBridges 38 = .ok (.goto (-36), 3) := by decide +kernel
theorem dX8_readBridges_41 : decode cX8_readBridges 41 = .ok (.aload_n 1, 1) := by decide +kernel
theorem dX8_readBridges_42 : decode cX8_readBridges 42 = .ok (.getfield 244, 3) := by decide +kernel
theorem dX8_readBridges_45 : decode cX8_readBridges 45 = .ok (.ifCond .eq 10, 3) := by decide +kernel
theorem dX8_readBridges_48 : decode cX8_readBridges 48 = .ok (.aload_n 0, 1) := by decide +kernel
theorem dX8_readBridges_49 : decode cX8_readBridges 49 = .ok (.invokevirtual 459, 3) := by decide +kernel
theorem dX8_readBridges_52 : decode cX8_readBridges 52 = .ok (.ifCond .ne 8, 3) := by decide +kernel
theorem dX8_readBridges_55 : decode cX8_readBridges 55 = .ok (.aload_n 0, 1) := by decide +kernel
theorem dX8_readBridges_56 : decode cX8_readBridges 56 = .ok (.iconst 1, 1) := by decide +kernel
theorem dX8_readBridges_57 : decode cX8_readBridges 57 = .ok (.invokevirtual 432, 3) := by decide +kernel
theorem dX8_readBridges_60 : decode cX8_readBridges 60 = .ok (.return_, 1) := by decide +kernel
theorem dX8_readBridge_0 : decode cX8_readBridge 0 = .ok (.aload_n 0, 1) := by decide +kernel
theorem dX8_readBridge_1 : decode cX8_readBridge 1 = .ok (.ldc_w 454, 3) := by decide +kernel
theorem dX8_readBridge_4 : decode cX8_readBridge 4 = .ok (.invokevirtual 419, 3) := by decide +kernel
theorem dX8_readBridge_7 : decode cX8_readBridge 7 = .ok (.aload_n 0, 1) := by decide +kernel
theorem dX8_readBridge_8 : decode cX8_readBridge 8 = .ok (.iconst 1, 1) := by decide +kernel
theorem dX8_readBridge_9 : decode cX8_readBridge 9 = .ok (.bipush 9, 2) := by decide +kernel
theorem dX8_readBridge_11 : decode cX8_readBridge 11 = .ok (.invokevirtual 422, 3) := by decide +kernel
theorem dX8_readBridge_14 : decode cX8_readBridge 14 = .ok (.istore_n 2, 1) := by decide +kernel
theorem dX8_readBridge_15 : decode cX8_readBridge 15 = .ok (.aload_n 0, 1) := by decide +kernel
theorem dX8_readBridge_16 : decode cX8_readBridge 16 = .ok (.iconst 0, 1) := by decide +kernel
theorem dX8_readBridge_17 : decode cX8_readBridge 17 = .ok (.iload_n 2, 1) := by decide +kernel
theorem dX8_readBridge_18 : decode cX8_readBridge 18 = .ok (.iconst 1, 1) := by decide +kernel
theorem dX8_readBridge_19 : decode cX8_readBridge 19 = .ok (.isub, 1) := by decide +kernel
theorem dX8_readBridge_20 : decode cX8_readBridge 20 = .ok (.invokevirtual 422, 3) := by decide +kernel
theorem dX8_readBridge_23 : decode cX8_readBridge 23 = .ok (.istore_n 3, 1) := by decide +kernel
theorem dX8_readBridge_24 : decode cX8_readBridge 24 = .ok (.aload_n 0, 1) := by decide +kernel
theorem dX8_readBridge_25 : decode cX8_readBridge 25 = .ok (.iconst 1, 1) := by decide +kernel
theorem dX8_readBridge_26 : decode cX8_readBridge 26 = .ok (.iconst 3, 1) := by decide +kernel
theorem dX8_readBridge_27 : decode cX8_readBridge 27 = .ok (.invokevirtual 422, 3) := by decide +kernel
theorem dX8_readBridge_30 : decode cX8_readBridge 30 = .ok (.istore 4, 2) := by decide +kernel
theorem dX8_readBridge_32 : decode cX8_readBridge 32 = .ok (.aload_n 0, 1) := by decide +kernel
theorem dX8_readBridge_33 : decode cX8_readBridge 33 = .ok (.invokevirtual 425, 3) := by decide +kernel
theorem dX8_readBridge_36 : decode cX8_readBridge 36 = .ok (.aload_n 1, 1) := by decide +kernel
theorem dX8_readBridge_37 : decode cX8_readBridge 37 = .ok (.iload_n 2, 1) := by decide +kernel
theorem dX8_readBridge_38 : decode cX8_readBridge 38 = .ok (.iload_n 3, 1) := by decide +kernel
theorem dX8_readBridge_39 : decode cX8_readBridge 39 = .ok (.iload 4, 2) := by decide +kernel
theorem dX8_readBridge_41 : decode cX8_readBridge 41 = .ok (.invokevirtual 67, 3) := by decide +kernel
theorem dX8_readBridge_44 : decode cX8_readBridge 44 = .ok (.return_, 1) := by decide +kernel
theorem dJx29ce0_ordinal_8abf5_0 : decode cJx29ce0_ordinal_8abf5 0 = .ok (.aload_n 0, 1) := by decide +kernel
theorem dJx29ce0_ordinal_8abf5_1 : decode cJx29ce0_ordinal_8abf5 1 = .ok (.getfield 7, 3) := by decide +kernel
theorem dJx29ce0_ordinal_8abf5_4 : decode cJx29ce0_ordinal_8abf5 4 = .ok (.ireturn, 1) := by decide +kernel
theorem dJ9_abs_0f7a4_0 : decode cJ9_abs_0f7a4 0 = .ok (.iload_n 0, 1) := by decide +kernel
theorem dJ9_abs_0f7a4_1 : decode cJ9_abs_0f7a4 1 = .ok (.ifCond .ge 8, 3) := by decide +kernel
theorem dJ9_abs_0f7a4_4 : decode cJ9_abs_0f7a4 4 = .ok (.iload_n 0, 1) := by decide +kernel
theorem dJ9_abs_0f7a4_5 : decode cJ9_abs_0f7a4 5 = .ok (.ineg, 1) := by decide +kernel
theorem dJ9_abs_0f7a4_6 : decode cJ9_abs_0f7a4 6 = .ok (.goto 4, 3) := by decide +kernel
theorem dJ9_abs_0f7a4_9 : decode cJ9_abs_0f7a4 9 = .ok (.iload_n 0, 1) := by decide +kernel
theorem dJ9_abs_0f7a4_10 : decode cJ9_abs_0f7a4 10 = .ok (.ireturn, 1) := by decide +kernel
theorem dJ9_max_7cf53_0 : decode cJ9_max_7cf53 0 = .ok (.iload_n 0, 1) := by decide +kernel
theorem dJ9_max_7cf53_1 : decode cJ9_max_7cf53 1 = .ok (.iload_n 1, 1) := by decide +kernel
theorem dJ9_max_7cf53_2 : decode cJ9_max_7cf53 2 = .ok (.if_icmp .lt 7, 3) := by decide +kernel
theorem dJ9_max_7cf53_5 : decode cJ9_max_7cf53 5 = .ok (.iload_n 0, 1) := by decide +kernel
theorem dJ9_max_7cf53_6 : decode cJ9_max_7cf53 6 = .ok (.goto 4, 3) := by decide +kernel
theorem dJ9_max_7cf53_9 : decode cJ9_max_7cf53 9 = .ok (.iload_n 1, 1) := by decide +kernel
theorem dJ9_max_7cf53_10 : decode cJ9_max_7cf53 10 = .ok (.ireturn, 1) := by decide +kernel
theorem dJ9_min_7cf53_0 : decode cJ9_min_7cf53 0 = .ok (.iload_n 0, 1) := by decide +kernel
theorem dJ9_min_7cf53_1 : decode cJ9_min_7cf53 1 = .ok (.iload_n 1, 1) := by decide +kernel
theorem dJ9_min_7cf53_2 : decode cJ9_min_7cf53 2 = .ok (.if_icmp .gt 7, 3) := by decide +kernel
theorem dJ9_min_7cf53_5 : decode cJ9_min_7cf53 5 = .ok (.iload_n 0, 1) := by decide +kernel
theorem dJ9_min_7cf53_6 : decode cJ9_min_7cf53 6 = .ok (.goto 4, 3) := by decide +kernel
theorem dJ9_min_7cf53_9 : decode cJ9_min_7cf53 9 = .ok (.iload_n 1, 1) := by decide +kernel
theorem dJ9_min_7cf53_10 : decode cJ9_min_7cf53 10 = .ok (.ireturn, 1) := by decide +kernel
theorem dJ0_length_8abf5_0 : decode cJ0_length_8abf5 0 = .ok (.aload_n 0, 1) := by decide +kernel
theorem dJ0_length_8abf5_1 : decode cJ0_length_8abf5 1 = .ok (.getfield 9, 3) := by decide +kernel
theorem dJ0_length_8abf5_4 : decode cJ0_length_8abf5 4 = .ok (.arraylength, 1) := by decide +kernel
theorem dJ0_length_8abf5_5 : decode cJ0_length_8abf5 5 = .ok (.aload_n 0, 1) := by decide +kernel
theorem dJ0_length_8abf5_6 : decode cJ0_length_8abf5 6 = .ok (.invokevirtual 335, 3) := by decide +kernel
theorem dJ0_length_8abf5_9 : decode cJ0_length_8abf5 9 = .ok (.ishr, 1) := by decide +kernel
theorem dJ0_length_8abf5_10 : decode cJ0_length_8abf5 10 = .ok (.ireturn, 1) := by decide +kernel
theorem dJ0_charAt_5068e_0 : decode cJ0_charAt_5068e 0 = .ok (.aload_n 0, 1) := by decide +kernel
theorem dJ0_charAt_5068e_1 : decode cJ0_charAt_5068e 1 = .ok (.invokevirtual 492, 3) := by decide +kernel
theorem dJ0_charAt_5068e_4 : decode cJ0_charAt_5068e 4 = .ok (.ifCond .eq 12, 3) := by decide +kernel
theorem dJ0_charAt_5068e_7 : decode cJ0_charAt_5068e 7 = .ok (.aload_n 0, 1) := by decide +kernel
theorem dJ0_charAt_5068e_8 : decode cJ0_charAt_5068e 8 = .ok (.getfield 9, 3) := by decide +kernel
theorem dJ0_charAt_5068e_11 : decode cJ0_charAt_5068e 11 = .ok (.iload_n 1, 1) := by decide +kernel
theorem dJ0_charAt_5068e_12 : decode cJ0_charAt_5068e 12 = .ok (.invokestatic 495, 3) := by decide +kernel
theorem dJ0_charAt_5068e_15 : decode cJ0_charAt_5068e 15 = .ok (.ireturn, 1) := by decide +kernel
theorem dJ0_charAt_5068e_16 : decode cJ0_charAt_5068e 16 = .ok (.aload_n 0, 1) := by decide +kernel
theorem dJ0_charAt_5068e_17 : decode cJ0_charAt_5068e 17 = .ok (.getfield 9, 3) := by decide +kernel
theorem dJ0_charAt_5068e_20 : decode cJ0_charAt_5068e 20 = .ok (.iload_n 1, 1) := by decide +kernel
theorem dJ0_charAt_5068e_21 : decode cJ0_charAt_5068e 21 = .ok (.invokestatic 498, 3) := by decide +kernel
theorem dJ0_charAt_5068e_24 : decode cJ0_charAt_5068e 24 = .ok (.ireturn, 1) := by decide +kernel
theorem dJ0_coder_7d493_0 : decode cJ0_coder_7d493 0 = .ok (.getstatic 38, 3) := by decide +kernel
theorem dJ0_coder_7d493_3 : decode cJ0_coder_7d493 3 = .ok (.ifCond .eq 10, 3) := by decide +kernel
theorem dJ0_coder_7d493_6 : decode cJ0_coder_7d493 6 = .ok (.aload_n 0, 1) := by decide +kernel
theorem dJ0_coder_7d493_7 : decode cJ0_coder_7d493 7 = .ok (.getfield 15, 3) := by decide +kernel
theorem dJ0_coder_7d493_10 : decode cJ0_coder_7d493 10 = .ok (.goto 4, 3) := by decide +kernel
theorem dJ0_coder_7d493_13 : decode cJ0_coder_7d493 13 = .ok (.iconst 1, 1) := by decide +kernel
theorem dJ0_coder_7d493_14 : decode cJ0_coder_7d493 14 = .ok (.ireturn, 1) := by decide +kernel
theorem dJ0_isLatin1_aae02_0 : decode cJ0_isLatin1_aae02 0 = .ok (.getstatic 38, 3) := by decide +kernel
theorem dJ0_isLatin1_aae02_3 : decode cJ0_isLatin1_aae02 3 = .ok (.ifCond .eq 14, 3) := by decide +kernel
theorem dJ0_isLatin1_aae02_6 : decode cJ0_isLatin1_aae02 6 = .ok (.aload_n 0, 1) := by decide +kernel
theorem dJ0_isLatin1_aae02_7 : decode cJ0_isLatin1_aae02 7 = .ok (.getfield 15, 3) := by decide +kernel
theorem dJ0_isLatin1_aae02_10 : decode cJ0_isLatin1_aae02 10 = .ok (.ifCond .ne 7, 3) := by decide +kernel
theorem dJ0_isLatin1_aae02_13 : decode cJ0_isLatin1_aae02 13 = .ok (.iconst 1, 1) := by decide +kernel
theorem dJ0_isLatin1_aae02_14 : decode cJ0_isLatin1_aae02 14 = .ok (.goto 4, 3) := by decide +kernel
theorem dJ0_isLatin1_aae02_17 : decode cJ0_isLatin1_aae02 17 = .ok (.iconst 0, 1) := by decide +kernel
theorem dJ0_isLatin1_aae02_18 : decode cJ0_isLatin1_aae02 18 = .ok (.ireturn, 1) := by decide +kernel
theorem dJ0_checkIndex_df160_0 : decode cJ0_checkIndex_df160 0 = .ok (.iload_n 0, 1) := by decide +kernel
theorem dJ0_checkIndex_df160_1 : decode cJ0_checkIndex_df160 1 = .ok (.iload_n 1, 1) := by decide +kernel
theorem dJ0_checkIndex_df160_2 : decode cJ0_checkIndex_df160 2 = .ok (.getstatic 1053, 3) := by decide +kernel
theorem dJ0_checkIndex_df160_5 : decode cJ0_checkIndex_df160 5 = .ok (.invokestatic 1059, 3) := by decide +kernel
theorem dJ0_checkIndex_df160_8 : decode cJ0_checkIndex_df160 8 = .ok (.pop, 1) := by decide +kernel
theorem dJ0_checkIndex_df160_9 : decode cJ0_checkIndex_df160 9 = .ok (.return_, 1) := by decide +kernel
theorem dJ1_charAt_3b067_0 : decode cJ1_charAt_3b067 0 = .ok (.iload_n 1, 1) := by decide +kernel
theorem dJ1_charAt_3b067_1 : decode cJ1_charAt_3b067 1 = .ok (.aload_n 0, 1) := by decide +kernel
theorem dJ1_charAt_3b067_2 : decode cJ1_charAt_3b067 2 = .ok (.arraylength, 1) := by decide +kernel
theorem dJ1_charAt_3b067_3 : decode cJ1_charAt_3b067 3 = .ok (.invokestatic 9, 3) := by decide +kernel
theorem dJ1_charAt_3b067_6 : decode cJ1_charAt_3b067 6 = .ok (.aload_n 0, 1) := by decide +kernel
theorem dJ1_charAt_3b067_7 : decode cJ1_charAt_3b067 7 = .ok (.iload_n 1, 1) := by decide +kernel
theorem dJ1_charAt_3b067_8 : decode cJ1_charAt_3b067 8 = .ok (.baload, 1) := by decide +kernel
theorem dJ1_charAt_3b067_9 : decode cJ1_charAt_3b067 9 = .ok (.sipush 255, 3) := by decide +kernel
theorem dJ1_charAt_3b067_12 : decode cJ1_charAt_3b067 12 = .ok (.iand, 1) := by decide +kernel
theorem dJ1_charAt_3b067_13 : decode cJ1_charAt_3b067 13 = .ok (.i2c, 1) := by decide +kernel
theorem dJ1_charAt_3b067_14 : decode cJ1_charAt_3b067 14 = .ok (.ireturn, 1) := by decide +kernel
theorem dJ2_getChar_3b067_0 : decode cJ2_getChar_3b067 0 = .ok (.getstatic 44, 3) := by decide +kernel
theorem dJ2_getChar_3b067_3 : decode cJ2_getChar_3b067 3 = .ok (.ifCond .ne 25, 3) := by decide +kernel
theorem dJ2_getChar_3b067_6 : decode cJ2_getChar_3b067 6 = .ok (.iload_n 1, 1) := by decide +kernel
theorem dJ2_getChar_3b067_7 : decode cJ2_getChar_3b067 7 = .ok (.ifCond .lt 11, 3) := by decide +kernel
theorem dJ2_getChar_3b067_10 : decode cJ2_getChar_3b067 10 = .ok (.iload_n 1, 1) := by decide +kernel
theorem dJ2_getChar_3b067_11 : decode cJ2_getChar_3b067 11 = .ok (.aload_n 0, 1) := by decide +kernel
theorem dJ2_getChar_3b067_12 : decode cJ2_getChar_3b067 12 = .ok (.invokestatic 48, 3) := by decide +kernel
theorem dJ2_getChar_3b067_15 : decode cJ2_getChar_3b067 15 = .ok (.if_icmp .lt 13, 3) := by decide +kernel
theorem dJ2_getChar_3b067_18 : decode cJ2_getChar_3b067 18 = .ok (.new 52, 3) := by decide +kernel
theorem dJ2_getChar_3b067_21 : decode cJ2_getChar_3b067 21 = .ok (.dup, 1) := by decide +kernel
theorem dJ2_getChar_3b067_22 : decode cJ2_getChar_3b067 22 = .ok (.ldc 54, 2) := by decide +kernel
theorem dJ2_getChar_3b067_24 : decode cJ2_getChar_3b067 24 = .ok (.invokespecial 56, 3) := by decide +kernel
theorem dJ2_getChar_3b067_27 : decode cJ2_getChar_3b067 27 = .ok (.athrow, 1) := by decide +kernel
theorem dJ2_getChar_3b067_28 : decode cJ2_getChar_3b067 28 = .ok (.iload_n 1, 1) := by decide +kernel
theorem dJ2_getChar_3b067_29 : decode cJ2_getChar_3b067 29 = .ok (.iconst 1, 1) := by decide +kernel
theorem dJ2_getChar_3b067_30 : decode cJ2_getChar_3b067 30 = .ok (.ishl, 1) := by decide +kernel
theorem dJ2_getChar_3b067_31 : decode cJ2_getChar_3b067 31 = .ok (.istore_n 1, 1) := by decide +kernel
theorem dJ2_getChar_3b067_32 : decode cJ2_getChar_3b067 32 = .ok (.aload_n 0, 1) := by decide +kernel
theorem dJ2_getChar_3b067_33 : decode cJ2_getChar_3b067 33 = .ok (.iload_n 1, 1) := by decide +kernel
theorem dJ2_getChar_3b067_34 : decode cJ2_getChar_3b067 34 = .ok (.iinc 1 1, 3) := by decide +kernel
theorem dJ2_getChar_3b067_37 : decode cJ2_getChar_3b067 37 = .ok (.baload, 1) := by decide +kernel
theorem dJ2_getChar_3b067_38 : decode cJ2_getChar_3b067 38 = .ok (.sipush 255, 3) := by decide +kernel
theorem dJ2_getChar_3b067_41 : decode cJ2_getChar_3b067 41 = .ok (.iand, 1) := by decide +kernel
theorem dJ2_getChar_3b067_42 : decode cJ2_getChar_3b067 42 = .ok (.getstatic 59, 3) := by decide +kernel
theorem dJ2_getChar_3b067_45 : decode cJ2_getChar_3b067 45 = .ok (.ishl, 1) := by decide +kernel
theorem dJ2_getChar_3b067_46 : decode cJ2_getChar_3b067 46 = .ok (.aload_n 0, 1) := by decide +kernel
theorem dJ2_getChar_3b067_47 : decode cJ2_getChar_3b067 47 = .ok (.iload_n 1, 1) := by decide +kernel
theorem dJ2_getChar_3b067_48 : decode cJ2_getChar_3b067 48 = .ok (.baload, 1) := by decide +kernel
theorem dJ2_getChar_3b067_49 : decode cJ2_getChar_3b067 49 = .ok (.sipush 255, 3) := by decide +kernel
theorem dJ2_getChar_3b067_52 : decode cJ2_getChar_3b067 52 = .ok (.iand, 1) := by decide +kernel
theorem dJ2_getChar_3b067_53 : decode cJ2_getChar_3b067 53 = .ok (.getstatic 63, 3) := by decide +kernel
theorem dJ2_getChar_3b067_56 : decode cJ2_getChar_3b067 56 = .ok (.ishl, 1) := by decide +kernel
theorem dJ2_getChar_3b067_57 : decode cJ2_getChar_3b067 57 = .ok (.ior, 1) := by decide +kernel
theorem dJ2_getChar_3b067_58 : decode cJ2_getChar_3b067 58 = .ok (.i2c, 1) := by decide +kernel
theorem dJ2_getChar_3b067_59 : decode cJ2_getChar_3b067 59 = .ok (.ireturn, 1) := by decide +kernel
theorem dJ2_length_9d52b_0 : decode cJ2_length_9d52b 0 = .ok (.aload_n 0, 1) := by decide +kernel
theorem dJ2_length_9d52b_1 : decode cJ2_length_9d52b 1 = .ok (.arraylength, 1) := by decide +kernel
theorem dJ2_length_9d52b_2 : decode cJ2_length_9d52b 2 = .ok (.iconst 1, 1) := by decide +kernel
theorem dJ2_length_9d52b_3 : decode cJ2_length_9d52b 3 = .ok (.ishr, 1) := by decide +kernel
theorem dJ2_length_9d52b_4 : decode cJ2_length_9d52b 4 = .ok (.ireturn, 1) := by decide +kernel
theorem dJ2_charAt_3b067_0 : decode cJ2_charAt_3b067 0 = .ok (.iload_n 1, 1) := by decide +kernel
theorem dJ2_charAt_3b067_1 : decode cJ2_charAt_3b067 1 = .ok (.aload_n 0, 1) := by decide +kernel
theorem dJ2_charAt_3b067_2 : decode cJ2_charAt_3b067 2 = .ok (.invokestatic 67, 3) := by decide +kernel
theorem dJ2_charAt_3b067_5 : decode cJ2_charAt_3b067 5 = .ok (.aload_n 0, 1) := by decide +kernel
theorem dJ2_charAt_3b067_6 : decode cJ2_charAt_3b067 6 = .ok (.iload_n 1, 1) := by decide +kernel
theorem dJ2_charAt_3b067_7 : decode cJ2_charAt_3b067 7 = .ok (.invokestatic 71, 3) := by decide +kernel
theorem dJ2_charAt_3b067_10 : decode cJ2_charAt_3b067 10 = .ok (.ireturn, 1) := by decide +kernel
theorem dJ2_checkIndex_2214a_0 : decode cJ2_checkIndex_2214a 0 = .ok (.iload_n 0, 1) := by decide +kernel
theorem dJ2_checkIndex_2214a_1 : decode cJ2_checkIndex_2214a 1 = .ok (.aload_n 1, 1) := by decide +kernel
theorem dJ2_checkIndex_2214a_2 : decode cJ2_checkIndex_2214a 2 = .ok (.invokestatic 48, 3) := by decide +kernel
theorem dJ2_checkIndex_2214a_5 : decode cJ2_checkIndex_2214a 5 = .ok (.invokestatic 414, 3) := by decide +kernel
theorem dJ2_checkIndex_2214a_8 : decode cJ2_checkIndex_2214a 8 = .ok (.return_, 1) := by decide +kernel
theorem dJ3_checkIndex_8e157_0 : decode cJ3_checkIndex_8e157 0 = .ok (.iload_n 0, 1) := by decide +kernel
theorem dJ3_checkIndex_8e157_1 : decode cJ3_checkIndex_8e157 1 = .ok (.ifCond .lt 8, 3) := by decide +kernel
theorem dJ3_checkIndex_8e157_4 : decode cJ3_checkIndex_8e157 4 = .ok (.iload_n 0, 1) := by decide +kernel
theorem dJ3_checkIndex_8e157_5 : decode cJ3_checkIndex_8e157 5 = .ok (.iload_n 1, 1) := by decide +kernel
theorem dJ3_checkIndex_8e157_6 : decode cJ3_checkIndex_8e157 6 = .ok (.if_icmp .lt 10, 3) := by decide +kernel
theorem dJ3_checkIndex_8e157_9 : decode cJ3_checkIndex_8e157 9 = .ok (.aload_n 2, 1) := by decide +kernel
theorem dJ3_checkIndex_8e157_10 : decode cJ3_checkIndex_8e157 10 = .ok (.iload_n 0, 1) := by decide +kernel
theorem dJ3_checkIndex_8e157_11 : decode cJ3_checkIndex_8e157 11 = .ok (.iload_n 1, 1) := by decide +kernel
theorem dJ3_checkIndex_8e157_12 : decode cJ3_checkIndex_8e157 12 = .ok (.invokestatic 95, 3) := by decide +kernel
theorem dJ3_checkIndex_8e157_15 : decode cJ3_checkIndex_8e157 15 = .ok (.athrow, 1) := by decide +kernel
theorem dJ3_checkIndex_8e157_16 : decode cJ3_checkIndex_8e157 16 = .ok (.iload_n 0, 1) := by decide +kernel
theorem dJ3_checkIndex_8e157_17 : decode cJ3_checkIndex_8e157 17 = .ok (.ireturn, 1) := by decide +kernel
theorem dL_init_0 : decode cL_init 0 = .ok (.aload_n 0, 1) := by decide +kernel
theorem dL_init_1 : decode cL_init 1 = .ok (.invokespecial 1, 3) := by decide +kernel
theorem dL_init_4 : decode cL_init 4 = .ok (.aload_n 0, 1) := by decide +kernel
theorem dL_init_5 : decode cL_init 5 = .ok (.sipush 500, 3) := by decide +kernel
theorem dL_init_8 : decode cL_init 8 = .ok (.newarray .int, 2) := by decide +kernel
theorem dL_init_10 : decode cL_init 10 = .ok (.putfield 7, 3) := by decide +kernel
theorem dL_init_13 : decode cL_init 13 = .ok (.aload_n 0, 1) := by decide +kernel
theorem dL_init_14 : decode cL_init 14 = .ok (.iconst 5, 1) := by decide +kernel
theorem dL_init_15 : decode cL_init 15 = .ok (.newarray .int, 2) := by decide +kernel
theorem dL_init_17 : decode cL_init 17 = .ok (.putfield 13, 3) := by decide +kernel
theorem dL_init_20 : decode cL_init 20 = .ok (.return_, 1) := by decide +kernel
theorem dL_writes_0 : decode cL_writes 0 = .ok (.iconst 0, 1) := by decide +kernel
theorem dL_writes_1 : decode cL_writes 1 = .ok (.istore_n 2, 1) := by decide +kernel
theorem dL_writes_2 : decode cL_writes 2 = .ok (.iload_n 2, 1) := by decide +kernel
theorem dL_writes_3 : decode cL_writes 3 = .ok (.aload_n 1, 1) := by decide +kernel
theorem dL_writes_4 : decode cL_writes 4 = .ok (.invokevirtual 16, 3) := by decide +kernel
theorem dL_writes_7 : decode cL_writes 7 = .ok (.if_icmp .ge 18, 3) := by decide +kernel
theorem dL_writes_10 : decode cL_writes 10 = .ok (.aload_n 0, 1) := by decide +kernel
theorem dL_writes_11 : decode cL_writes 11 = .ok (.aload_n 1, 1) := by decide +kernel
theorem dL_writes_12 : decode cL_writes 12 = .ok (.iload_n 2, 1) := by decide +kernel
theorem dL_writes_13 : decode cL_writes 13 = .ok (.invokevirtual 22, 3) := by decide +kernel
theorem dL_writes_16 : decode cL_writes 16 = .ok (.invokevirtual 26, 3) := by decide +kernel
theorem dL_writes_19 : decode cL_writes 19 = .ok (.iinc 2 1, 3) := by decide +kernel
theorem dL_writes_22 : decode cL_writes 22 = .ok (.goto (-20), 3) := by decide +kernel
theorem dL_writes_25 : decode cL_writes 25 = .ok (.return_, 1) := by decide +kernel
theorem dL_sign_0 : decode cL_sign 0 = .ok (.aload_n 0, 1) := by decide +kernel
theorem dL_sign_1 : decode cL_sign 1 = .ok (.getfield 7, 3) := by decide +kernel
theorem dL_sign_4 : decode cL_sign 4 = .ok (.aload_n 0, 1) := by decide +kernel
theorem dL_sign_5 : decode cL_sign 5 = .ok (.getfield 30, 3) := by decide +kernel
theorem dL_sign_8 : decode cL_sign 8 = .ok (.iload_n 1, 1) := by decide +kernel
theorem dL_sign_9 : decode cL_sign 9 = .ok (.iastore, 1) := by decide +kernel
theorem dL_sign_10 : decode cL_sign 10 = .ok (.aload_n 0, 1) := by decide +kernel
theorem dL_sign_11 : decode cL_sign 11 = .ok (.dup, 1) := by decide +kernel
theorem dL_sign_12 : decode cL_sign 12 = .ok (.getfield 30, 3) := by decide +kernel
theorem dL_sign_15 : decode cL_sign 15 = .ok (.iconst 1, 1) := by decide +kernel
theorem dL_sign_16 : decode cL_sign 16 = .ok (.iadd, 1) := by decide +kernel
theorem dL_sign_17 : decode cL_sign 17 = .ok (.putfield 30, 3) := by decide +kernel
theorem dL_sign_20 : decode cL_sign 20 = .ok (.return_, 1) := by decide +kernel
theorem dL_number_0 : decode cL_number 0 = .ok (.iconst 1, 1) := by decide +kernel
theorem dL_number_1 : decode cL_number 1 = .ok (.istore_n 2, 1) := by decide +kernel
theorem dL_number_2 : decode cL_number 2 = .ok (.iload_n 1, 1) := by decide +kernel
theorem dL_number_3 : decode cL_number 3 = .ok (.iload_n 2, 1) := by decide +kernel
theorem dL_number_4 : decode cL_number 4 = .ok (.idiv, 1) := by decide +kernel
theorem dL_number_5 : decode cL_number 5 = .ok (.bipush 9, 2) := by decide +kernel
theorem dL_number_7 : decode cL_number 7 = .ok (.if_icmp .le 11, 3) := by decide +kernel
theorem dL_number_10 : decode cL_number 10 = .ok (.iload_n 2, 1) := by decide +kernel
theorem dL_number_11 : decode cL_number 11 = .ok (.bipush 10, 2) := by decide +kernel
theorem dL_number_13 : decode cL_number 13 = .ok (.imul, 1) := by decide +kernel
theorem dL_number_14 : decode cL_number 14 = .ok (.istore_n 2, 1) := by decide +kernel
theorem dL_number_15 : decode cL_number 15 = .ok (.goto (-13), 3) := by decide +kernel
theorem dL_number_18 : decode cL_number 18 = .ok (.aload_n 0, 1) := by decide +kernel
theorem dL_number_19 : decode cL_number 19 = .ok (.bipush 32, 2) := by decide +kernel
theorem dL_number_21 : decode cL_number 21 = .ok (.invokevirtual 26, 3) := by decide +kernel
theorem dL_number_24 : decode cL_number 24 = .ok (.iload_n 2, 1) := by decide +kernel
theorem dL_number_25 : decode cL_number 25 = .ok (.ifCond .le 24, 3) := by decide +kernel
theorem dL_number_28 : decode cL_number 28 = .ok (.aload_n 0, 1) := by decide +kernel
theorem dL_number_29 : decode cL_number 29 = .ok (.bipush 48, 2) := by decide +kernel
theorem dL_number_31 : decode cL_number 31 = .ok (.iload_n 1, 1) := by decide +kernel
theorem dL_number_32 : decode cL_number 32 = .ok (.iload_n 2, 1) := by decide +kernel
theorem dL_number_33 : decode cL_number 33 = .ok (.idiv, 1) := by decide +kernel
theorem dL_number_34 : decode cL_number 34 = .ok (.bipush 10, 2) := by decide +kernel
theorem dL_number_36 : decode cL_number 36 = .ok (.irem, 1) := by decide +kernel
theorem dL_number_37 : decode cL_number 37 = .ok (.iadd, 1) := by decide +kernel
theorem dL_number_38 : decode cL_number 38 = .ok (.invokevirtual 26, 3) := by decide +kernel
theorem dL_number_41 : decode cL_number 41 = .ok (.iload_n 2, 1) := by decide +kernel
theorem dL_number_42 : decode cL_number 42 = .ok (.bipush 10, 2) := by decide +kernel
theorem dL_number_44 : decode cL_number 44 = .ok (.idiv, 1) := by decide +kernel
theorem dL_number_45 : decode cL_number 45 = .ok (.istore_n 2, 1) := by decide +kernel
theorem dL_number_46 : decode cL_number 46 = .ok (.goto (-22), 3) := by decide +kernel
theorem dL_number_49 : decode cL_number 49 = .ok (.return_, 1) := by decide +kernel
theorem dL_cell_0 : decode cL_cell 0 = .ok (.iload_n 1, 1) := by decide +kernel
theorem dL_cell_1 : decode cL_cell 1 = .ok (.aload_n 0, 1) := by decide +kernel
theorem dL_cell_2 : decode cL_cell 2 = .ok (.arraylength, 1) := by decide +kernel
theorem dL_cell_3 : decode cL_cell 3 = .ok (.if_icmp .ge 12, 3) := by decide +kernel
theorem dL_cell_6 : decode cL_cell 6 = .ok (.aload_n 0, 1) := by decide +kernel
theorem dL_cell_7 : decode cL_cell 7 = .ok (.iload_n 1, 1) := by decide +kernel
theorem dL_cell_8 : decode cL_cell 8 = .ok (.iaload, 1) := by decide +kernel
theorem dL_cell_9 : decode cL_cell 9 = .ok (.ldc 34, 2) := by decide +kernel
theorem dL_cell_11 : decode cL_cell 11 = .ok (.iand, 1) := by decide +kernel
theorem dL_cell_12 : decode cL_cell 12 = .ok (.goto 4, 3) := by decide +kernel
theorem dL_cell_15 : decode cL_cell 15 = .ok (.iconst 0, 1) := by decide +kernel
theorem dL_cell_16 : decode cL_cell 16 = .ok (.ireturn, 1) := by decide +kernel
theorem dL_feeds_0 : decode cL_feeds 0 = .ok (.iconst 0, 1) := by decide +kernel
theorem dL_feeds_1 : decode cL_feeds 1 = .ok (.istore_n 2, 1) := by decide +kernel
theorem dL_feeds_2 : decode cL_feeds 2 = .ok (.iload_n 2, 1) := by decide +kernel
theorem dL_feeds_3 : decode cL_feeds 3 = .ok (.aload_n 0, 1) := by decide +kernel
theorem dL_feeds_4 : decode cL_feeds 4 = .ok (.getfield 30, 3) := by decide +kernel
theorem dL_feeds_7 : decode cL_feeds 7 = .ok (.if_icmp .ge 101, 3) := by decide +kernel
theorem dL_feeds_10 : decode cL_feeds 10 = .ok (.iconst 0, 1) := by decide +kernel
theorem dL_feeds_11 : decode cL_feeds 11 = .ok (.istore_n 3, 1) := by decide +kernel
theorem dL_feeds_12 : decode cL_feeds 12 = .ok (.iload_n 3, 1) := by decide +kernel
theorem dL_feeds_13 : decode cL_feeds 13 = .ok (.bipush 20, 2) := by decide +kernel
theorem dL_feeds_15 : decode cL_feeds 15 = .ok (.if_icmp .ge 52, 3) := by decide +kernel
theorem dL_feeds_18 : decode cL_feeds 18 = .ok (.aload_n 0, 1) := by decide +kernel
theorem dL_feeds_19 : decode cL_feeds 19 = .ok (.getfield 13, 3) := by decide +kernel
theorem dL_feeds_22 : decode cL_feeds 22 = .ok (.iload_n 3, 1) := by decide +kernel
theorem dL_feeds_23 : decode cL_feeds 23 = .ok (.iconst 4, 1) := by decide +kernel
theorem dL_feeds_24 : decode cL_feeds 24 = .ok (.idiv, 1) := by decide +kernel
theorem dL_feeds_25 : decode cL_feeds 25 = .ok (.aload_n 0, 1) := by decide +kernel
theorem dL_feeds_26 : decode cL_feeds 26 = .ok (.getfield 13, 3) := by decide +kernel
theorem dL_feeds_29 : decode cL_feeds 29 = .ok (.iload_n 3, 1) := by decide +kernel
theorem dL_feeds_30 : decode cL_feeds 30 = .ok (.iconst 4, 1) := by decide +kernel
theorem dL_feeds_31 : decode cL_feeds 31 = .ok (.idiv, 1) := by decide +kernel
theorem dL_feeds_32 : decode cL_feeds 32 = .ok (.iaload, 1) := by decide +kernel
theorem dL_feeds_33 : decode cL_feeds 33 = .ok (.bipush 8, 2) := by decide +kernel
theorem dL_feeds_35 : decode cL_feeds 35 = .ok (.ishl, 1) := by decide +kernel
theorem dL_feeds_36 : decode cL_feeds 36 = .ok (.iload_n 2, 1) := by decide +kernel
theorem dL_feeds_37 : decode cL_feeds 37 = .ok (.iload_n 3, 1) := by decide +kernel
theorem dL_feeds_38 : decode cL_feeds 38 = .ok (.iadd, 1) := by decide +kernel
theorem dL_feeds_39 : decode cL_feeds 39 = .ok (.aload_n 0, 1) := by decide +kernel
theorem dL_feeds_40 : decode cL_feeds 40 = .ok (.getfield 30, 3) := by decide +kernel
theorem dL_feeds_43 : decode cL_feeds 43 = .ok (.if_icmp .ge 14, 3) := by decide +kernel
theorem dL_feeds_46 : decode cL_feeds 46 = .ok (.aload_n 0, 1) := by decide +kernel
theorem dL_feeds_47 : decode cL_feeds 47 = .ok (.getfield 7, 3) := by decide +kernel
theorem dL_feeds_50 : decode cL_feeds 50 = .ok (.iload_n 2, 1) := by decide +kernel
theorem dL_feeds_51 : decode cL_feeds 51 = .ok (.iload_n 3, 1) := by decide +kernel
theorem dL_feeds_52 : decode cL_feeds 52 = .ok (.iadd, 1) := by decide +kernel
theorem dL_feeds_53 : decode cL_feeds 53 = .ok (.iaload, 1) := by decide +kernel
theorem dL_feeds_54 : decode cL_feeds 54 = .ok (.goto 5, 3) := by decide +kernel
theorem dL_feeds_57 : decode cL_feeds 57 = .ok (.bipush 32, 2) := by decide +kernel
theorem dL_feeds_59 : decode cL_feeds 59 = .ok (.ior, 1) := by decide +kernel
theorem dL_feeds_60 : decode cL_feeds 60 = .ok (.iastore, 1) := by decide +kernel
theorem dL_feeds_61 : decode cL_feeds 61 = .ok (.iinc 3 1, 3) := by decide +kernel
theorem dL_feeds_64 : decode cL_feeds 64 = .ok (.goto (-52), 3) := by decide +kernel
theorem dL_feeds_67 : decode cL_feeds 67 = .ok (.aload_n 1, 1) := by decide +kernel
theorem dL_feeds_68 : decode cL_feeds 68 = .ok (.aload_n 0, 1) := by decide +kernel
theorem dL_feeds_69 : decode cL_feeds 69 = .ok (.getfield 13, 3) := by decide +kernel
theorem dL_feeds_72 : decode cL_feeds 72 = .ok (.iconst 0, 1) := by decide +kernel
theorem dL_feeds_73 : decode cL_feeds 73 = .ok (.iaload, 1) := by decide +kernel
theorem dL_feeds_74 : decode cL_feeds 74 = .ok (.aload_n 0, 1) := by decide +kernel
theorem dL_feeds_75 : decode cL_feeds 75 = .ok (.getfield 13, 3) := by decide +kernel
theorem dL_feeds_78 : decode cL_feeds 78 = .ok (.iconst 1, 1) := by decide +kernel
theorem dL_feeds_79 : decode cL_feeds 79 = .ok (.iaload, 1) := by decide +kernel
theorem dL_feeds_80 : decode cL_feeds 80 = .ok (.aload_n 0, 1) := by decide +kernel
theorem dL_feeds_81 : decode cL_feeds 81 = .ok (.getfield 13, 3) := by decide +kernel
theorem dL_feeds_84 : decode cL_feeds 84 = .ok (.iconst 2, 1) := by decide +kernel
theorem dL_feeds_85 : decode cL_feeds 85 = .ok (.iaload, 1) := by decide +kernel
theorem dL_feeds_86 : decode cL_feeds 86 = .ok (.aload_n 0, 1) := by decide +kernel
theorem dL_feeds_87 : decode cL_feeds 87 = .ok (.getfield 13, 3) := by decide +kernel
theorem dL_feeds_90 : decode cL_feeds 90 = .ok (.iconst 3, 1) := by decide +kernel
theorem dL_feeds_91 : decode cL_feeds 91 = .ok (.iaload, 1) := by decide +kernel
theorem dL_feeds_92 : decode cL_feeds 92 = .ok (.aload_n 0, 1) := by decide +kernel
theorem dL_feeds_93 : decode cL_feeds 93 = .ok (.getfield 13, 3) := by decide +kernel
theorem dL_feeds_96 : decode cL_feeds 96 = .ok (.iconst 4, 1) := by decide +kernel
theorem dL_feeds_97 : decode cL_feeds 97 = .ok (.iaload, 1) := by decide +kernel
theorem dL_feeds_98 : decode cL_feeds 98 = .ok (.invokevirtual 35, 3) := by decide +kernel
theorem dL_feeds_101 : decode cL_feeds 101 = .ok (.istore_n 3, 1) := by decide +kernel
theorem dL_feeds_102 : decode cL_feeds 102 = .ok (.iinc 2 20, 3) := by decide +kernel
theorem dL_feeds_105 : decode cL_feeds 105 = .ok (.goto (-103), 3) := by decide +kernel
theorem dL_feeds_108 : decode cL_feeds 108 = .ok (.aload_n 0, 1) := by decide +kernel
theorem dL_feeds_109 : decode cL_feeds 109 = .ok (.getfield 30, 3) := by decide +kernel
theorem dL_feeds_112 : decode cL_feeds 112 = .ok (.istore_n 2, 1) := by decide +kernel
theorem dL_feeds_113 : decode cL_feeds 113 = .ok (.aload_n 0, 1) := by decide +kernel
theorem dL_feeds_114 : decode cL_feeds 114 = .ok (.iconst 0, 1) := by decide +kernel
theorem dL_feeds_115 : decode cL_feeds 115 = .ok (.putfield 30, 3) := by decide +kernel
theorem dL_feeds_118 : decode cL_feeds 118 = .ok (.iload_n 2, 1) := by decide +kernel
theorem dL_feeds_119 : decode cL_feeds 119 = .ok (.ireturn, 1) := by decide +kernel
theorem dL_loads_0 : decode cL_loads 0 = .ok (.aload_n 2, 1) := by decide +kernel
theorem dL_loads_1 : decode cL_loads 1 = .ok (.iconst 0, 1) := by decide +kernel
theorem dL_loads_2 : decode cL_loads 2 = .ok (.invokestatic 41, 3) := by decide +kernel
theorem dL_loads_5 : decode cL_loads 5 = .ok (.istore_n 3, 1) := by decide +kernel
theorem dL_loads_6 : decode cL_loads 6 = .ok (.aload_n 0, 1) := by decide +kernel
theorem dL_loads_7 : decode cL_loads 7 = .ok (.iconst 3, 1) := by decide +kernel
theorem dL_loads_8 : decode cL_loads 8 = .ok (.iload_n 3, 1) := by decide +kernel
theorem dL_loads_9 : decode cL_loads 9 = .ok (.iconst 4, 1) := by decide +kernel
theorem dL_loads_10 : decode cL_loads 10 = .ok (.irem, 1) := by decide +kernel
theorem dL_loads_11 : decode cL_loads 11 = .ok (.iadd, 1) := by decide +kernel
theorem dL_loads_12 : decode cL_loads 12 = .ok (.putfield 45, 3) := by decide +kernel
theorem dL_loads_15 : decode cL_loads 15 = .ok (.aload_n 0, 1) := by decide +kernel
theorem dL_loads_16 : decode cL_loads 16 = .ok (.iconst 1, 1) := by decide +kernel
theorem dL_loads_17 : decode cL_loads 17 = .ok (.iload_n 3, 1) := by decide +kernel
theorem dL_loads_18 : decode cL_loads 18 = .ok (.iconst 4, 1) := by decide +kernel
theorem dL_loads_19 : decode cL_loads 19 = .ok (.idiv, 1) := by decide +kernel
theorem dL_loads_20 : decode cL_loads 20 = .ok (.iconst 2, 1) := by decide +kernel
theorem dL_loads_21 : decode cL_loads 21 = .ok (.irem, 1) := by decide +kernel
theorem dL_loads_22 : decode cL_loads 22 = .ok (.iadd, 1) := by decide +kernel
theorem dL_loads_23 : decode cL_loads 23 = .ok (.putfield 48, 3) := by decide +kernel
theorem dL_loads_26 : decode cL_loads 26 = .ok (.aload_n 0, 1) := by decide +kernel
theorem dL_loads_27 : decode cL_loads 27 = .ok (.ldc 51, 2) := by decide +kernel
theorem dL_loads_29 : decode cL_loads 29 = .ok (.invokevirtual 53, 3) := by decide +kernel
theorem dL_loads_32 : decode cL_loads 32 = .ok (.aload_n 0, 1) := by decide +kernel
theorem dL_loads_33 : decode cL_loads 33 = .ok (.iload_n 3, 1) := by decide +kernel
theorem dL_loads_34 : decode cL_loads 34 = .ok (.bipush 16, 2) := by decide +kernel
theorem dL_loads_36 : decode cL_loads 36 = .ok (.idiv, 1) := by decide +kernel
theorem dL_loads_37 : decode cL_loads 37 = .ok (.bipush 91, 2) := by decide +kernel
theorem dL_loads_39 : decode cL_loads 39 = .ok (.irem, 1) := by decide +kernel
theorem dL_loads_40 : decode cL_loads 40 = .ok (.invokevirtual 57, 3) := by decide +kernel
theorem dL_loads_43 : decode cL_loads 43 = .ok (.aload_n 0, 1) := by decide +kernel
theorem dL_loads_44 : decode cL_loads 44 = .ok (.iload_n 3, 1) := by decide +kernel
theorem dL_loads_45 : decode cL_loads 45 = .ok (.sipush 2048, 3) := by decide +kernel
theorem dL_loads_48 : decode cL_loads 48 = .ok (.idiv, 1) := by decide +kernel
theorem dL_loads_49 : decode cL_loads 49 = .ok (.bipush 10, 2) := by decide +kernel
theorem dL_loads_51 : decode cL_loads 51 = .ok (.irem, 1) := by decide +kernel
theorem dL_loads_52 : decode cL_loads 52 = .ok (.invokevirtual 57, 3) := by decide +kernel
theorem dL_loads_55 : decode cL_loads 55 = .ok (.aload_n 0, 1) := by decide +kernel
theorem dL_loads_56 : decode cL_loads 56 = .ok (.iload_n 3, 1) := by decide +kernel
theorem dL_loads_57 : decode cL_loads 57 = .ok (.ldc 60, 2) := by decide +kernel
theorem dL_loads_59 : decode cL_loads 59 = .ok (.idiv, 1) := by decide +kernel
theorem dL_loads_60 : decode cL_loads 60 = .ok (.bipush 13, 2) := by decide +kernel
theorem dL_loads_62 : decode cL_loads 62 = .ok (.irem, 1) := by decide +kernel
theorem dL_loads_63 : decode cL_loads 63 = .ok (.invokevirtual 57, 3) := by decide +kernel
theorem dL_loads_66 : decode cL_loads 66 = .ok (.aload_n 0, 1) := by decide +kernel
theorem dL_loads_67 : decode cL_loads 67 = .ok (.iload_n 3, 1) := by decide +kernel
theorem dL_loads_68 : decode cL_loads 68 = .ok (.ldc 61, 2) := by decide +kernel
theorem dL_loads_70 : decode cL_loads 70 = .ok (.idiv, 1) := by decide +kernel
theorem dL_loads_71 : decode cL_loads 71 = .ok (.bipush 7, 2) := by decide +kernel
theorem dL_loads_73 : decode cL_loads 73 = .ok (.irem, 1) := by decide +kernel
theorem dL_loads_74 : decode cL_loads 74 = .ok (.invokevirtual 57, 3) := by decide +kernel
theorem dL_loads_77 : decode cL_loads 77 = .ok (.aload_n 0, 1) := by decide +kernel
theorem dL_loads_78 : decode cL_loads 78 = .ok (.ldc 62, 2) := by decide +kernel
theorem dL_loads_80 : decode cL_loads 80 = .ok (.invokevirtual 53, 3) := by decide +kernel
theorem dL_loads_83 : decode cL_loads 83 = .ok (.iconst 0, 1) := by decide +kernel
theorem dL_loads_84 : decode cL_loads 84 = .ok (.istore 4, 2) := by decide +kernel
theorem dL_loads_86 : decode cL_loads 86 = .ok (.iload 4, 2) := by decide +kernel
theorem dL_loads_88 : decode cL_loads 88 = .ok (.aload_n 0, 1) := by decide +kernel
theorem dL_loads_89 : decode cL_loads 89 = .ok (.getfield 45, 3) := by decide +kernel
theorem dL_loads_92 : decode cL_loads 92 = .ok (.if_icmp .ge 110, 3) := by decide +kernel
theorem dL_loads_95 : decode cL_loads 95 = .ok (.aload_n 2, 1) := by decide +kernel
theorem dL_loads_96 : decode cL_loads 96 = .ok (.iconst 1, 1) := by decide +kernel
theorem dL_loads_97 : decode cL_loads 97 = .ok (.invokestatic 41, 3) := by decide +kernel
theorem dL_loads_100 : decode cL_loads 100 = .ok (.iconst 2, 1) := by decide +kernel
theorem dL_loads_101 : decode cL_loads 101 = .ok (.iload 4, 2) := by decide +kernel
theorem dL_loads_103 : decode cL_loads 103 = .ok (.imul, 1) := by decide +kernel
theorem dL_loads_104 : decode cL_loads 104 = .ok (.iconst 1, 1) := by decide +kernel
theorem dL_loads_105 : decode cL_loads 105 = .ok (.iadd, 1) := by decide +kernel
theorem dL_loads_106 : decode cL_loads 106 = .ok (.idiv, 1) := by decide +kernel
theorem dL_loads_107 : decode cL_loads 107 = .ok (.bipush 7, 2) := by decide +kernel
theorem dL_loads_109 : decode cL_loads 109 = .ok (.iload 4, 2) := by decide +kernel
theorem dL_loads_111 : decode cL_loads 111 = .ok (.imul, 1) := by decide +kernel
theorem dL_loads_112 : decode cL_loads 112 = .ok (.iadd, 1) := by decide +kernel
theorem dL_loads_113 : decode cL_loads 113 = .ok (.istore 5, 2) := by decide +kernel
theorem dL_loads_115 : decode cL_loads 115 = .ok (.aload_n 0, 1) := by decide +kernel
theorem dL_loads_116 : decode cL_loads 116 = .ok (.iload 5, 2) := by decide +kernel
theorem dL_loads_118 : decode cL_loads 118 = .ok (.iconst 3, 1) := by decide +kernel
theorem dL_loads_119 : decode cL_loads 119 = .ok (.irem, 1) := by decide +kernel
theorem dL_loads_120 : decode cL_loads 120 = .ok (.ifCond .ne 8, 3) := by decide +kernel
theorem dL_loads_123 : decode cL_loads 123 = .ok (.ldc 64, 2) := by decide +kernel
theorem dL_loads_125 : decode cL_loads 125 = .ok (.goto 5, 3) := by decide +kernel
theorem dL_loads_128 : decode cL_loads 128 = .ok (.ldc 66, 2) := by decide +kernel
theorem dL_loads_130 : decode cL_loads 130 = .ok (.invokevirtual 53, 3) := by decide +kernel
theorem dL_loads_133 : decode cL_loads 133 = .ok (.aload_n 0, 1) := by decide +kernel
theorem dL_loads_134 : decode cL_loads 134 = .ok (.iload 5, 2) := by decide +kernel
theorem dL_loads_136 : decode cL_loads 136 = .ok (.iconst 4, 1) := by decide +kernel
theorem dL_loads_137 : decode cL_loads 137 = .ok (.idiv, 1) := by decide +kernel
theorem dL_loads_138 : decode cL_loads 138 = .ok (.iconst 3, 1) := by decide +kernel
theorem dL_loads_139 : decode cL_loads 139 = .ok (.irem, 1) := by decide +kernel
theorem dL_loads_140 : decode cL_loads 140 = .ok (.ifCond .ne 8, 3) := by decide +kernel
theorem dL_loads_143 : decode cL_loads 143 = .ok (.ldc 68, 2) := by decide +kernel
theorem dL_loads_145 : decode cL_loads 145 = .ok (.goto 5, 3) := by decide +kernel
theorem dL_loads_148 : decode cL_loads 148 = .ok (.ldc 70, 2) := by decide +kernel
theorem dL_loads_150 : decode cL_loads 150 = .ok (.invokevirtual 53, 3) := by decide +kernel
theorem dL_loads_153 : decode cL_loads 153 = .ok (.aload_n 0, 1) := by decide +kernel
theorem dL_loads_154 : decode cL_loads 154 = .ok (.iload 5, 2) := by decide +kernel
theorem dL_loads_156 : decode cL_loads 156 = .ok (.bipush 16, 2) := by decide +kernel
theorem dL_loads_158 : decode cL_loads 158 = .ok (.idiv, 1) := by decide +kernel
theorem dL_loads_159 : decode cL_loads 159 = .ok (.bipush 60, 2) := by decide +kernel
theorem dL_loads_161 : decode cL_loads 161 = .ok (.irem, 1) := by decide +kernel
theorem dL_loads_162 : decode cL_loads 162 = .ok (.invokevirtual 57, 3) := by decide +kernel
theorem dL_loads_165 : decode cL_loads 165 = .ok (.aload_n 0, 1) := by decide +kernel
theorem dL_loads_166 : decode cL_loads 166 = .ok (.iload 5, 2) := by decide +kernel
theorem dL_loads_168 : decode cL_loads 168 = .ok (.bipush 64, 2) := by decide +kernel
theorem dL_loads_170 : decode cL_loads 170 = .ok (.idiv, 1) := by decide +kernel
theorem dL_loads_171 : decode cL_loads 171 = .ok (.bipush 41, 2) := by decide +kernel
theorem dL_loads_173 : decode cL_loads 173 = .ok (.irem, 1) := by decide +kernel
theorem dL_loads_174 : decode cL_loads 174 = .ok (.invokevirtual 57, 3) := by decide +kernel
theorem dL_loads_177 : decode cL_loads 177 = .ok (.aload_n 0, 1) := by decide +kernel
theorem dL_loads_178 : decode cL_loads 178 = .ok (.iload 5, 2) := by decide +kernel
theorem dL_loads_180 : decode cL_loads 180 = .ok (.sipush 256, 3) := by decide +kernel
theorem dL_loads_183 : decode cL_loads 183 = .ok (.idiv, 1) := by decide +kernel
theorem dL_loads_184 : decode cL_loads 184 = .ok (.bipush 51, 2) := by decide +kernel
theorem dL_loads_186 : decode cL_loads 186 = .ok (.irem, 1) := by decide +kernel
theorem dL_loads_187 : decode cL_loads 187 = .ok (.invokevirtual 57, 3) := by decide +kernel
theorem dL_loads_190 : decode cL_loads 190 = .ok (.aload_n 0, 1) := by decide +kernel
theorem dL_loads_191 : decode cL_loads 191 = .ok (.ldc 62, 2) := by decide +kernel
theorem dL_loads_193 : decode cL_loads 193 = .ok (.invokevirtual 53, 3) := by decide +kernel
theorem dL_loads_196 : decode cL_loads 196 = .ok (.iinc 4 1, 3) := by decide +kernel
theorem dL_loads_199 : decode cL_loads 199 = .ok (.goto (-113), 3) := by decide +kernel
theorem dL_loads_202 : decode cL_loads 202 = .ok (.iconst 0, 1) := by decide +kernel
theorem dL_loads_203 : decode cL_loads 203 = .ok (.istore 4, 2) := by decide +kernel
theorem dL_loads_205 : decode cL_loads 205 = .ok (.iload 4, 2) := by decide +kernel
theorem dL_loads_207 : decode cL_loads 207 = .ok (.aload_n 0, 1) := by decide +kernel
theorem dL_loads_208 : decode cL_loads 208 = .ok (.getfield 48, 3) := by decide +kernel
theorem dL_loads_211 : decode cL_loads 211 = .ok (.if_icmp .ge 71, 3) := by decide +kernel
theorem dL_loads_214 : decode cL_loads 214 = .ok (.aload_n 2, 1) := by decide +kernel
theorem dL_loads_215 : decode cL_loads 215 = .ok (.iconst 2, 1) := by decide +kernel
theorem dL_loads_216 : decode cL_loads 216 = .ok (.invokestatic 41, 3) := by decide +kernel
theorem dL_loads_219 : decode cL_loads 219 = .ok (.iload 4, 2) := by decide +kernel
theorem dL_loads_221 : decode cL_loads 221 = .ok (.iconst 1, 1) := by decide +kernel
theorem dL_loads_222 : decode cL_loads 222 = .ok (.iadd, 1) := by decide +kernel
theorem dL_loads_223 : decode cL_loads 223 = .ok (.idiv, 1) := by decide +kernel
theorem dL_loads_224 : decode cL_loads 224 = .ok (.istore 5, 2) := by decide +kernel
theorem dL_loads_226 : decode cL_loads 226 = .ok (.iconst 1, 1) := by decide +kernel
theorem dL_loads_227 : decode cL_loads 227 = .ok (.iload 5, 2) := by decide +kernel
theorem dL_loads_229 : decode cL_loads 229 = .ok (.iconst 3, 1) := by decide +kernel
theorem dL_loads_230 : decode cL_loads 230 = .ok (.irem, 1) := by decide +kernel
theorem dL_loads_231 : decode cL_loads 231 = .ok (.iadd, 1) := by decide +kernel
theorem dL_loads_232 : decode cL_loads 232 = .ok (.istore 6, 2) := by decide +kernel
theorem dL_loads_234 : decode cL_loads 234 = .ok (.aload_n 0, 1) := by decide +kernel
theorem dL_loads_235 : decode cL_loads 235 = .ok (.ldc 72, 2) := by decide +kernel
theorem dL_loads_237 : decode cL_loads 237 = .ok (.invokevirtual 53, 3) := by decide +kernel
theorem dL_loads_240 : decode cL_loads 240 = .ok (.aload_n 0, 1) := by decide +kernel
theorem dL_loads_241 : decode cL_loads 241 = .ok (.iload 6, 2) := by decide +kernel
theorem dL_loads_243 : decode cL_loads 243 = .ok (.invokevirtual 57, 3) := by decide +kernel
theorem dL_loads_246 : decode cL_loads 246 = .ok (.aload_n 0, 1) := by decide +kernel
theorem dL_loads_247 : decode cL_loads 247 = .ok (.iload 5, 2) := by decide +kernel
theorem dL_loads_249 : decode cL_loads 249 = .ok (.iconst 4, 1) := by decide +kernel
theorem dL_loads_250 : decode cL_loads 250 = .ok (.idiv, 1) := by decide +kernel
theorem dL_loads_251 : decode cL_loads 251 = .ok (.iload 6, 2) := by decide +kernel
theorem dL_loads_253 : decode cL_loads 253 = .ok (.irem, 1) := by decide +kernel
theorem dL_loads_254 : decode cL_loads 254 = .ok (.invokevirtual 57, 3) := by decide +kernel
theorem dL_loads_257 : decode cL_loads 257 = .ok (.aload_n 0, 1) := by decide +kernel
theorem dL_loads_258 : decode cL_loads 258 = .ok (.iconst 1, 1) := by decide +kernel
theorem dL_loads_259 : decode cL_loads 259 = .ok (.iload 5, 2) := by decide +kernel
theorem dL_loads_261 : decode cL_loads 261 = .ok (.bipush 16, 2) := by decide +kernel
theorem dL_loads_263 : decode cL_loads 263 = .ok (.idiv, 1) := by decide +kernel
theorem dL_loads_264 : decode cL_loads 264 = .ok (.iconst 3, 1) := by decide +kernel
theorem dL_loads_265 : decode cL_loads 265 = .ok (.irem, 1) := by decide +kernel
theorem dL_loads_266 : decode cL_loads 266 = .ok (.iadd, 1) := by decide +kernel
theorem dL_loads_267 : decode cL_loads 267 = .ok (.invokevirtual 57, 3) := by decide +kernel
theorem dL_loads_270 : decode cL_loads 270 = .ok (.aload_n 0, 1) := by decide +kernel
theorem dL_loads_271 : decode cL_loads 271 = .ok (.ldc 62, 2) := by decide +kernel
theorem dL_loads_273 : decode cL_loads 273 = .ok (.invokevirtual 53, 3) := by decide +kernel
theorem dL_loads_276 : decode cL_loads 276 = .ok (.iinc 4 1, 3) := by decide +kernel
theorem dL_loads_279 : decode cL_loads 279 = .ok (.goto (-74), 3) := by decide +kernel
theorem dL_loads_282 : decode cL_loads 282 = .ok (.aload_n 1, 1) := by decide +kernel
theorem dL_loads_283 : decode cL_loads 283 = .ok (.aload_n 0, 1) := by decide +kernel
theorem dL_loads_284 : decode cL_loads 284 = .ok (.aload_n 1, 1) := by decide +kernel
theorem dL_loads_285 : decode cL_loads 285 = .ok (.invokevirtual 74, 3) := by decide +kernel
theorem dL_loads_288 : decode cL_loads 288 = .ok (.invokevirtual 78, 3) := by decide +kernel
theorem dL_loads_291 : decode cL_loads 291 = .ok (.aload_n 0, 1) := by decide +kernel
theorem dL_loads_292 : decode cL_loads 292 = .ok (.getfield 45, 3) := by decide +kernel
theorem dL_loads_295 : decode cL_loads 295 = .ok (.if_icmp .ne 36, 3) := by decide +kernel
theorem dL_loads_298 : decode cL_loads 298 = .ok (.aload_n 1, 1) := by decide +kernel
theorem dL_loads_299 : decode cL_loads 299 = .ok (.invokevirtual 82, 3) := by decide +kernel
theorem dL_loads_302 : decode cL_loads 302 = .ok (.ifCond .ne 29, 3) := by decide +kernel
theorem dL_loads_305 : decode cL_loads 305 = .ok (.aload_n 1, 1) := by decide +kernel
theorem dL_loads_306 : decode cL_loads 306 = .ok (.invokevirtual 85, 3) := by decide +kernel
theorem dL_loads_309 : decode cL_loads 309 = .ok (.iconst (-1), 1) := by decide +kernel
theorem dL_loads_310 : decode cL_loads 310 = .ok (.if_icmp .ne 21, 3) := by decide +kernel
theorem dL_loads_313 : decode cL_loads 313 = .ok (.aload_n 1, 1) := by decide +kernel
theorem dL_loads_314 : decode cL_loads 314 = .ok (.invokevirtual 88, 3) := by decide +kernel
theorem dL_loads_317 : decode cL_loads 317 = .ok (.ifCond .ne 14, 3) := by decide +kernel
theorem dL_loads_320 : decode cL_loads 320 = .ok (.aload_n 1, 1) := by decide +kernel
theorem dL_loads_321 : decode cL_loads 321 = .ok (.invokevirtual 91, 3) := by decide +kernel
theorem dL_loads_324 : decode cL_loads 324 = .ok (.ifCond .ne 7, 3) := by decide +kernel
theorem dL_loads_327 : decode cL_loads 327 = .ok (.iconst 1, 1) := by decide +kernel
theorem dL_loads_328 : decode cL_loads 328 = .ok (.goto 4, 3) := by decide +kernel
theorem dL_loads_331 : decode cL_loads 331 = .ok (.iconst 0, 1) := by decide +kernel
theorem dL_loads_332 : decode cL_loads 332 = .ok (.ireturn, 1) := by decide +kernel
theorem dL_king_0 : decode cL_king 0 = .ok (.iconst 0, 1) := by decide +kernel
theorem dL_king_1 : decode cL_king 1 = .ok (.istore_n 3, 1) := by decide +kernel
theorem dL_king_2 : decode cL_king 2 = .ok (.iload_n 3, 1) := by decide +kernel
theorem dL_king_3 : decode cL_king 3 = .ok (.aload_n 0, 1) := by decide +kernel
theorem dL_king_4 : decode cL_king 4 = .ok (.getfield 45, 3) := by decide +kernel
theorem dL_king_7 : decode cL_king 7 = .ok (.if_icmp .ge 33, 3) := by decide +kernel
theorem dL_king_10 : decode cL_king 10 = .ok (.aload_n 1, 1) := by decide +kernel
theorem dL_king_11 : decode cL_king 11 = .ok (.iload_n 2, 1) := by decide +kernel
theorem dL_king_12 : decode cL_king 12 = .ok (.iload_n 3, 1) := by decide +kernel
theorem dL_king_13 : decode cL_king 13 = .ok (.iadd, 1) := by decide +kernel
theorem dL_king_14 : decode cL_king 14 = .ok (.aload_n 0, 1) := by decide +kernel
theorem dL_king_15 : decode cL_king 15 = .ok (.getfield 45, 3) := by decide +kernel
theorem dL_king_18 : decode cL_king 18 = .ok (.irem, 1) := by decide +kernel
theorem dL_king_19 : decode cL_king 19 = .ok (.invokevirtual 94, 3) := by decide +kernel
theorem dL_king_22 : decode cL_king 22 = .ok (.ifCond .eq 12, 3) := by decide +kernel
theorem dL_king_25 : decode cL_king 25 = .ok (.iload_n 2, 1) := by decide +kernel
theorem dL_king_26 : decode cL_king 26 = .ok (.iload_n 3, 1) := by decide +kernel
theorem dL_king_27 : decode cL_king 27 = .ok (.iadd, 1) := by decide +kernel
theorem dL_king_28 : decode cL_king 28 = .ok (.aload_n 0, 1) := by decide +kernel
theorem dL_king_29 : decode cL_king 29 = .ok (.getfield 45, 3) := by decide +kernel
theorem dL_king_32 : decode cL_king 32 = .ok (.irem, 1) := by decide +kernel
theorem dL_king_33 : decode cL_king 33 = .ok (.ireturn, 1) := by decide +kernel
theorem dL_king_34 : decode cL_king 34 = .ok (.iinc 3 1, 3) := by decide +kernel
theorem dL_king_37 : decode cL_king 37 = .ok (.goto (-35), 3) := by decide +kernel
theorem dL_king_40 : decode cL_king 40 = .ok (.iload_n 2, 1) := by decide +kernel
theorem dL_king_41 : decode cL_king 41 = .ok (.ireturn, 1) := by decide +kernel
theorem dL_acts_0 : decode cL_acts 0 = .ok (.iload_n 2, 1) := by decide +kernel
theorem dL_acts_1 : decode cL_acts 1 = .ok (.bipush 16, 2) := by decide +kernel
theorem dL_acts_3 : decode cL_acts 3 = .ok (.idiv, 1) := by decide +kernel
theorem dL_acts_4 : decode cL_acts 4 = .ok (.istore_n 3, 1) := by decide +kernel
theorem dL_acts_5 : decode cL_acts 5 = .ok (.iload_n 3, 1) := by decide +kernel
theorem dL_acts_6 : decode cL_acts 6 = .ok (.aload_n 0, 1) := by decide +kernel
theorem dL_acts_7 : decode cL_acts 7 = .ok (.getfield 45, 3) := by decide +kernel
theorem dL_acts_10 : decode cL_acts 10 = .ok (.irem, 1) := by decide +kernel
theorem dL_acts_11 : decode cL_acts 11 = .ok (.istore 4, 2) := by decide +kernel
theorem dL_acts_13 : decode cL_acts 13 = .ok (.iload 4, 2) := by decide +kernel
theorem dL_acts_15 : decode cL_acts 15 = .ok (.iconst 1, 1) := by decide +kernel
theorem dL_acts_16 : decode cL_acts 16 = .ok (.iadd, 1) := by decide +kernel
theorem dL_acts_17 : decode cL_acts 17 = .ok (.iload_n 3, 1) := by decide +kernel
theorem dL_acts_18 : decode cL_acts 18 = .ok (.bipush 8, 2) := by decide +kernel
theorem dL_acts_20 : decode cL_acts 20 = .ok (.idiv, 1) := by decide +kernel
theorem dL_acts_21 : decode cL_acts 21 = .ok (.aload_n 0, 1) := by decide +kernel
theorem dL_acts_22 : decode cL_acts 22 = .ok (.getfield 45, 3) := by decide +kernel
theorem dL_acts_25 : decode cL_acts 25 = .ok (.iconst 1, 1) := by decide +kernel
theorem dL_acts_26 : decode cL_acts 26 = .ok (.isub, 1) := by decide +kernel
theorem dL_acts_27 : decode cL_acts 27 = .ok (.irem, 1) := by decide +kernel
theorem dL_acts_28 : decode cL_acts 28 = .ok (.iadd, 1) := by decide +kernel
theorem dL_acts_29 : decode cL_acts 29 = .ok (.aload_n 0, 1) := by decide +kernel
theorem dL_acts_30 : decode cL_acts 30 = .ok (.getfield 45, 3) := by decide +kernel
theorem dL_acts_33 : decode cL_acts 33 = .ok (.irem, 1) := by decide +kernel
theorem dL_acts_34 : decode cL_acts 34 = .ok (.istore 5, 2) := by decide +kernel
theorem dL_acts_36 : decode cL_acts 36 = .ok (.aload_n 0, 1) := by decide +kernel
theorem dL_acts_37 : decode cL_acts 37 = .ok (.aload_n 1, 1) := by decide +kernel
theorem dL_acts_38 : decode cL_acts 38 = .ok (.iload 5, 2) := by decide +kernel
theorem dL_acts_40 : decode cL_acts 40 = .ok (.invokevirtual 98, 3) := by decide +kernel
theorem dL_acts_43 : decode cL_acts 43 = .ok (.istore 6, 2) := by decide +kernel
theorem dL_acts_45 : decode cL_acts 45 = .ok (.iload_n 2, 1) := by decide +kernel
theorem dL_acts_46 : decode cL_acts 46 = .ok (.bipush 13, 2) := by decide +kernel
theorem dL_acts_48 : decode cL_acts 48 = .ok (.irem, 1) := by decide +kernel
theorem dL_acts_49 : decode cL_acts 49 = .ok (.tableswitch 335 0 9 #[55, 92, 137, 174, 225, 257, 257, 257, 289, 313], 55) := by decide +kernel
theorem dL_acts_104 : decode cL_acts 104 = .ok (.aload_n 1, 1) := by decide +kernel
theorem dL_acts_105 : decode cL_acts 105 = .ok (.iload 4, 2) := by decide +kernel
theorem dL_acts_107 : decode cL_acts 107 = .ok (.invokevirtual 101, 3) := by decide +kernel
theorem dL_acts_110 : decode cL_acts 110 = .ok (.ifCond .le 29, 3) := by decide +kernel
theorem dL_acts_113 : decode cL_acts 113 = .ok (.aload_n 1, 1) := by decide +kernel
theorem dL_acts_114 : decode cL_acts 114 = .ok (.iload 4, 2) := by decide +kernel
theorem dL_acts_116 : decode cL_acts 116 = .ok (.iconst 1, 1) := by decide +kernel
theorem dL_acts_117 : decode cL_acts 117 = .ok (.iload_n 3, 1) := by decide +kernel
theorem dL_acts_118 : decode cL_acts 118 = .ok (.bipush 64, 2) := by decide +kernel
theorem dL_acts_120 : decode cL_acts 120 = .ok (.idiv, 1) := by decide +kernel
theorem dL_acts_121 : decode cL_acts 121 = .ok (.aload_n 1, 1) := by decide +kernel
theorem dL_acts_122 : decode cL_acts 122 = .ok (.iload 4, 2) := by decide +kernel
theorem dL_acts_124 : decode cL_acts 124 = .ok (.invokevirtual 101, 3) := by decide +kernel
theorem dL_acts_127 : decode cL_acts 127 = .ok (.irem, 1) := by decide +kernel
theorem dL_acts_128 : decode cL_acts 128 = .ok (.iadd, 1) := by decide +kernel
theorem dL_acts_129 : decode cL_acts 129 = .ok (.invokevirtual 104, 3) := by decide +kernel
theorem dL_acts_132 : decode cL_acts 132 = .ok (.ifCond .le 7, 3) := by decide +kernel
theorem dL_acts_135 : decode cL_acts 135 = .ok (.iconst 1, 1) := by decide +kernel
theorem dL_acts_136 : decode cL_acts 136 = .ok (.goto 4, 3) := by decide +kernel
theorem dL_acts_139 : decode cL_acts 139 = .ok (.iconst 0, 1) := by decide +kernel
theorem dL_acts_140 : decode cL_acts 140 = .ok (.ireturn, 1) := by decide +kernel
theorem dL_acts_141 : decode cL_acts 141 = .ok (.aload_n 1, 1) := by decide +kernel
theorem dL_acts_142 : decode cL_acts 142 = .ok (.aload_n 1, 1) := by decide +kernel
theorem dL_acts_143 : decode cL_acts 143 = .ok (.iload 4, 2) := by decide +kernel
theorem dL_acts_145 : decode cL_acts 145 = .ok (.invokevirtual 108, 3) := by decide +kernel
theorem dL_acts_148 : decode cL_acts 148 = .ok (.invokevirtual 111, 3) := by decide +kernel
theorem dL_acts_151 : decode cL_acts 151 = .ok (.ifCond .le 33, 3) := by decide +kernel
theorem dL_acts_154 : decode cL_acts 154 = .ok (.aload_n 1, 1) := by decide +kernel
theorem dL_acts_155 : decode cL_acts 155 = .ok (.iload 4, 2) := by decide +kernel
theorem dL_acts_157 : decode cL_acts 157 = .ok (.iconst 1, 1) := by decide +kernel
theorem dL_acts_158 : decode cL_acts 158 = .ok (.iload_n 3, 1) := by decide +kernel
theorem dL_acts_159 : decode cL_acts 159 = .ok (.bipush 64, 2) := by decide +kernel
theorem dL_acts_161 : decode cL_acts 161 = .ok (.idiv, 1) := by decide +kernel
theorem dL_acts_162 : decode cL_acts 162 = .ok (.aload_n 1, 1) := by decide +kernel
theorem dL_acts_163 : decode cL_acts 163 = .ok (.aload_n 1, 1) := by decide +kernel
theorem dL_acts_164 : decode cL_acts 164 = .ok (.iload 4, 2) := by decide +kernel
theorem dL_acts_166 : decode cL_acts 166 = .ok (.invokevirtual 108, 3) := by decide +kernel
theorem dL_acts_169 : decode cL_acts 169 = .ok (.invokevirtual 111, 3) := by decide +kernel
theorem dL_acts_172 : decode cL_acts 172 = .ok (.irem, 1) := by decide +kernel
theorem dL_acts_173 : decode cL_acts 173 = .ok (.iadd, 1) := by decide +kernel
theorem dL_acts_174 : decode cL_acts 174 = .ok (.invokevirtual 115, 3) := by decide +kernel
theorem dL_acts_177 : decode cL_acts 177 = .ok (.ifCond .le 7, 3) := by decide +kernel
theorem dL_acts_180 : decode cL_acts 180 = .ok (.iconst 1, 1) := by decide +kernel
theorem dL_acts_181 : decode cL_acts 181 = .ok (.goto 4, 3) := by decide +kernel
theorem dL_acts_184 : decode cL_acts 184 = .ok (.iconst 0, 1) := by decide +kernel
theorem dL_acts_185 : decode cL_acts 185 = .ok (.ireturn, 1) := by decide +kernel
theorem dL_acts_186 : decode cL_acts 186 = .ok (.aload_n 1, 1) := by decide +kernel
theorem dL_acts_187 : decode cL_acts 187 = .ok (.iload 6, 2) := by decide +kernel
theorem dL_acts_189 : decode cL_acts 189 = .ok (.invokevirtual 94, 3) := by decide +kernel
theorem dL_acts_192 : decode cL_acts 192 = .ok (.ifCond .eq 29, 3) := by decide +kernel
theorem dL_acts_195 : decode cL_acts 195 = .ok (.aload_n 1, 1) := by decide +kernel
theorem dL_acts_196 : decode cL_acts 196 = .ok (.iload 6, 2) := by decide +kernel
theorem dL_acts_198 : decode cL_acts 198 = .ok (.invokevirtual 118, 3) := by decide +kernel
theorem dL_acts_201 : decode cL_acts 201 = .ok (.iload 4, 2) := by decide +kernel
theorem dL_acts_203 : decode cL_acts 203 = .ok (.if_icmp .ne 18, 3) := by decide +kernel
theorem dL_acts_206 : decode cL_acts 206 = .ok (.aload_n 1, 1) := by decide +kernel
theorem dL_acts_207 : decode cL_acts 207 = .ok (.iload 4, 2) := by decide +kernel
theorem dL_acts_209 : decode cL_acts 209 = .ok (.iload 6, 2) := by decide +kernel
theorem dL_acts_211 : decode cL_acts 211 = .ok (.invokevirtual 121, 3) := by decide +kernel
theorem dL_acts_214 : decode cL_acts 214 = .ok (.ifCond .lt 7, 3) := by decide +kernel
theorem dL_acts_217 : decode cL_acts 217 = .ok (.iconst 1, 1) := by decide +kernel
theorem dL_acts_218 : decode cL_acts 218 = .ok (.goto 4, 3) := by decide +kernel
theorem dL_acts_221 : decode cL_acts 221 = .ok (.iconst 0, 1) := by decide +kernel
theorem dL_acts_222 : decode cL_acts 222 = .ok (.ireturn, 1) := by decide +kernel
theorem dL_acts_223 : decode cL_acts 223 = .ok (.aload_n 1, 1) := by decide +kernel
theorem dL_acts_224 : decode cL_acts 224 = .ok (.iload 6, 2) := by decide +kernel
theorem dL_acts_226 : decode cL_acts 226 = .ok (.invokevirtual 94, 3) := by decide +kernel
theorem dL_acts_229 : decode cL_acts 229 = .ok (.ifCond .eq 43, 3) := by decide +kernel
theorem dL_acts_232 : decode cL_acts 232 = .ok (.aload_n 1, 1) := by decide +kernel
theorem dL_acts_233 : decode cL_acts 233 = .ok (.iload 6, 2) := by decide +kernel
theorem dL_acts_235 : decode cL_acts 235 = .ok (.invokevirtual 118, 3) := by decide +kernel
theorem dL_acts_238 : decode cL_acts 238 = .ok (.iconst (-1), 1) := by decide +kernel
theorem dL_acts_239 : decode cL_acts 239 = .ok (.if_icmp .ne 33, 3) := by decide +kernel
theorem dL_acts_242 : decode cL_acts 242 = .ok (.aload_n 1, 1) := by decide +kernel
theorem dL_acts_243 : decode cL_acts 243 = .ok (.iload 6, 2) := by decide +kernel
theorem dL_acts_245 : decode cL_acts 245 = .ok (.invokevirtual 124, 3) := by decide +kernel
theorem dL_acts_248 : decode cL_acts 248 = .ok (.aload_n 1, 1) := by decide +kernel
theorem dL_acts_249 : decode cL_acts 249 = .ok (.iload 4, 2) := by decide +kernel
theorem dL_acts_251 : decode cL_acts 251 = .ok (.invokevirtual 108, 3) := by decide +kernel
theorem dL_acts_254 : decode cL_acts 254 = .ok (.if_icmp .ne 18, 3) := by decide +kernel
theorem dL_acts_257 : decode cL_acts 257 = .ok (.aload_n 1, 1) := by decide +kernel
theorem dL_acts_258 : decode cL_acts 258 = .ok (.iload 4, 2) := by decide +kernel
theorem dL_acts_260 : decode cL_acts 260 = .ok (.iload 6, 2) := by decide +kernel
theorem dL_acts_262 : decode cL_acts 262 = .ok (.invokevirtual 127, 3) := by decide +kernel
theorem dL_acts_265 : decode cL_acts 265 = .ok (.ifCond .le 7, 3) := by decide +kernel
theorem dL_acts_268 : decode cL_acts 268 = .ok (.iconst 1, 1) := by decide +kernel
theorem dL_acts_269 : decode cL_acts 269 = .ok (.goto 4, 3) := by decide +kernel
theorem dL_acts_272 : decode cL_acts 272 = .ok (.iconst 0, 1) := by decide +kernel
theorem dL_acts_273 : decode cL_acts 273 = .ok (.ireturn, 1) := by decide +kernel
theorem dL_acts_274 : decode cL_acts 274 = .ok (.aload_n 1, 1) := by decide +kernel
theorem dL_acts_275 : decode cL_acts 275 = .ok (.iload 4, 2) := by decide +kernel
theorem dL_acts_277 : decode cL_acts 277 = .ok (.invokevirtual 108, 3) := by decide +kernel
theorem dL_acts_280 : decode cL_acts 280 = .ok (.aload_n 1, 1) := by decide +kernel
theorem dL_acts_281 : decode cL_acts 281 = .ok (.iload 5, 2) := by decide +kernel
theorem dL_acts_283 : decode cL_acts 283 = .ok (.invokevirtual 108, 3) := by decide +kernel
theorem dL_acts_286 : decode cL_acts 286 = .ok (.if_icmp .ne 18, 3) := by decide +kernel
theorem dL_acts_289 : decode cL_acts 289 = .ok (.aload_n 1, 1) := by decide +kernel
theorem dL_acts_290 : decode cL_acts 290 = .ok (.iload 4, 2) := by decide +kernel
theorem dL_acts_292 : decode cL_acts 292 = .ok (.iload 5, 2) := by decide +kernel
theorem dL_acts_294 : decode cL_acts 294 = .ok (.invokevirtual 130, 3) := by decide +kernel
theorem dL_acts_297 : decode cL_acts 297 = .ok (.ifCond .lt 7, 3) := by decide +kernel
theorem dL_acts_300 : decode cL_acts 300 = .ok (.iconst 1, 1) := by decide +kernel
theorem dL_acts_301 : decode cL_acts 301 = .ok (.goto 4, 3) := by decide +kernel
theorem dL_acts_304 : decode cL_acts 304 = .ok (.iconst 0, 1) := by decide +kernel
theorem dL_acts_305 : decode cL_acts 305 = .ok (.ireturn, 1) := by decide +kernel
theorem dL_acts_306 : decode cL_acts 306 = .ok (.aload_n 1, 1) := by decide +kernel
theorem dL_acts_307 : decode cL_acts 307 = .ok (.iload 4, 2) := by decide +kernel
theorem dL_acts_309 : decode cL_acts 309 = .ok (.invokevirtual 133, 3) := by decide +kernel
theorem dL_acts_312 : decode cL_acts 312 = .ok (.iconst (-1), 1) := by decide +kernel
theorem dL_acts_313 : decode cL_acts 313 = .ok (.if_icmp .ne 23, 3) := by decide +kernel
theorem dL_acts_316 : decode cL_acts 316 = .ok (.aload_n 1, 1) := by decide +kernel
theorem dL_acts_317 : decode cL_acts 317 = .ok (.iload 4, 2) := by decide +kernel
theorem dL_acts_319 : decode cL_acts 319 = .ok (.iload_n 3, 1) := by decide +kernel
theorem dL_acts_320 : decode cL_acts 320 = .ok (.bipush 64, 2) := by decide +kernel
theorem dL_acts_322 : decode cL_acts 322 = .ok (.idiv, 1) := by decide +kernel
theorem dL_acts_323 : decode cL_acts 323 = .ok (.bipush 6, 2) := by decide +kernel
theorem dL_acts_325 : decode cL_acts 325 = .ok (.irem, 1) := by decide +kernel
theorem dL_acts_326 : decode cL_acts 326 = .ok (.invokevirtual 136, 3) := by decide +kernel
theorem dL_acts_329 : decode cL_acts 329 = .ok (.ifCond .lt 7, 3) := by decide +kernel
theorem dL_acts_332 : decode cL_acts 332 = .ok (.iconst 1, 1) := by decide +kernel
theorem dL_acts_333 : decode cL_acts 333 = .ok (.goto 4, 3) := by decide +kernel
theorem dL_acts_336 : decode cL_acts 336 = .ok (.iconst 0, 1) := by decide +kernel
theorem dL_acts_337 : decode cL_acts 337 = .ok (.ireturn, 1) := by decide +kernel
theorem dL_acts_338 : decode cL_acts 338 = .ok (.aload_n 1, 1) := by decide +kernel
theorem dL_acts_339 : decode cL_acts 339 = .ok (.iload 4, 2) := by decide +kernel
theorem dL_acts_341 : decode cL_acts 341 = .ok (.invokevirtual 133, 3) := by decide +kernel
theorem dL_acts_344 : decode cL_acts 344 = .ok (.ifCond .lt 16, 3) := by decide +kernel
theorem dL_acts_347 : decode cL_acts 347 = .ok (.aload_n 1, 1) := by decide +kernel
theorem dL_acts_348 : decode cL_acts 348 = .ok (.iload 4, 2) := by decide +kernel
theorem dL_acts_350 : decode cL_acts 350 = .ok (.invokevirtual 139, 3) := by decide +kernel
theorem dL_acts_353 : decode cL_acts 353 = .ok (.ifCond .lt 7, 3) := by decide +kernel
theorem dL_acts_356 : decode cL_acts 356 = .ok (.iconst 1, 1) := by decide +kernel
theorem dL_acts_357 : decode cL_acts 357 = .ok (.goto 4, 3) := by decide +kernel
theorem dL_acts_360 : decode cL_acts 360 = .ok (.iconst 0, 1) := by decide +kernel
theorem dL_acts_361 : decode cL_acts 361 = .ok (.ireturn, 1) := by decide +kernel
theorem dL_acts_362 : decode cL_acts 362 = .ok (.aload_n 1, 1) := by decide +kernel
theorem dL_acts_363 : decode cL_acts 363 = .ok (.iload 4, 2) := by decide +kernel
theorem dL_acts_365 : decode cL_acts 365 = .ok (.iload_n 3, 1) := by decide +kernel
theorem dL_acts_366 : decode cL_acts 366 = .ok (.bipush 64, 2) := by decide +kernel
theorem dL_acts_368 : decode cL_acts 368 = .ok (.idiv, 1) := by decide +kernel
theorem dL_acts_369 : decode cL_acts 369 = .ok (.bipush 41, 2) := by decide +kernel
theorem dL_acts_371 : decode cL_acts 371 = .ok (.irem, 1) := by decide +kernel
theorem dL_acts_372 : decode cL_acts 372 = .ok (.invokevirtual 142, 3) := by decide +kernel
theorem dL_acts_375 : decode cL_acts 375 = .ok (.ifCond .lt 7, 3) := by decide +kernel
theorem dL_acts_378 : decode cL_acts 378 = .ok (.iconst 1, 1) := by decide +kernel
theorem dL_acts_379 : decode cL_acts 379 = .ok (.goto 4, 3) := by decide +kernel
theorem dL_acts_382 : decode cL_acts 382 = .ok (.iconst 0, 1) := by decide +kernel
theorem dL_acts_383 : decode cL_acts 383 = .ok (.ireturn, 1) := by decide +kernel
theorem dL_acts_384 : decode cL_acts 384 = .ok (.aload_n 1, 1) := by decide +kernel
theorem dL_acts_385 : decode cL_acts 385 = .ok (.iconst 1, 1) := by decide +kernel
theorem dL_acts_386 : decode cL_acts 386 = .ok (.iload_n 3, 1) := by decide +kernel
theorem dL_acts_387 : decode cL_acts 387 = .ok (.iconst 3, 1) := by decide +kernel
theorem dL_acts_388 : decode cL_acts 388 = .ok (.irem, 1) := by decide +kernel
theorem dL_acts_389 : decode cL_acts 389 = .ok (.iadd, 1) := by decide +kernel
theorem dL_acts_390 : decode cL_acts 390 = .ok (.invokevirtual 145, 3) := by decide +kernel
theorem dL_acts_393 : decode cL_acts 393 = .ok (.ifCond .lt 7, 3) := by decide +kernel
theorem dL_acts_396 : decode cL_acts 396 = .ok (.iconst 1, 1) := by decide +kernel
theorem dL_acts_397 : decode cL_acts 397 = .ok (.goto 4, 3) := by decide +kernel
theorem dL_acts_400 : decode cL_acts 400 = .ok (.iconst 0, 1) := by decide +kernel
theorem dL_acts_401 : decode cL_acts 401 = .ok (.ireturn, 1) := by decide +kernel
theorem dL_law_0 : decode cL_law 0 = .ok (.new 8, 3) := by decide +kernel
theorem dL_law_3 : decode cL_law 3 = .ok (.dup, 1) := by decide +kernel
theorem dL_law_4 : decode cL_law 4 = .ok (.invokespecial 148, 3) := by decide +kernel
theorem dL_law_7 : decode cL_law 7 = .ok (.astore_n 1, 1) := by decide +kernel
theorem dL_law_8 : decode cL_law 8 = .ok (.new 36, 3) := by decide +kernel
theorem dL_law_11 : decode cL_law 11 = .ok (.dup, 1) := by decide +kernel
theorem dL_law_12 : decode cL_law 12 = .ok (.invokespecial 149, 3) := by decide +kernel
theorem dL_law_15 : decode cL_law 15 = .ok (.astore_n 2, 1) := by decide +kernel
theorem dL_law_16 : decode cL_law 16 = .ok (.aload_n 1, 1) := by decide +kernel
theorem dL_law_17 : decode cL_law 17 = .ok (.aload_n 2, 1) := by decide +kernel
theorem dL_law_18 : decode cL_law 18 = .ok (.aload_n 0, 1) := by decide +kernel
theorem dL_law_19 : decode cL_law 19 = .ok (.invokevirtual 150, 3) := by decide +kernel
theorem dL_law_22 : decode cL_law 22 = .ok (.ifCond .ne 5, 3) := by decide +kernel
theorem dL_law_25 : decode cL_law 25 = .ok (.iconst 0, 1) := by decide +kernel
theorem dL_law_26 : decode cL_law 26 = .ok (.ireturn, 1) := by decide +kernel
theorem dL_law_27 : decode cL_law 27 = .ok (.aload_n 1, 1) := by decide +kernel
theorem dL_law_28 : decode cL_law 28 = .ok (.aload_n 2, 1) := by decide +kernel
theorem dL_law_29 : decode cL_law 29 = .ok (.invokevirtual 154, 3) := by decide +kernel
theorem dL_law_32 : decode cL_law 32 = .ok (.istore_n 3, 1) := by decide +kernel
theorem dL_law_33 : decode cL_law 33 = .ok (.iconst 3, 1) := by decide +kernel
theorem dL_law_34 : decode cL_law 34 = .ok (.istore 4, 2) := by decide +kernel
theorem dL_law_36 : decode cL_law 36 = .ok (.iload 4, 2) := by decide +kernel
theorem dL_law_38 : decode cL_law 38 = .ok (.bipush 19, 2) := by decide +kernel
theorem dL_law_40 : decode cL_law 40 = .ok (.if_icmp .ge 91, 3) := by decide +kernel
theorem dL_law_43 : decode cL_law 43 = .ok (.aload_n 2, 1) := by decide +kernel
theorem dL_law_44 : decode cL_law 44 = .ok (.invokevirtual 156, 3) := by decide +kernel
theorem dL_law_47 : decode cL_law 47 = .ok (.istore 5, 2) := by decide +kernel
theorem dL_law_49 : decode cL_law 49 = .ok (.aload_n 1, 1) := by decide +kernel
theorem dL_law_50 : decode cL_law 50 = .ok (.aload_n 2, 1) := by decide +kernel
theorem dL_law_51 : decode cL_law 51 = .ok (.invokevirtual 159, 3) := by decide +kernel
theorem dL_law_54 : decode cL_law 54 = .ok (.istore 6, 2) := by decide +kernel
theorem dL_law_56 : decode cL_law 56 = .ok (.aload_n 1, 1) := by decide +kernel
theorem dL_law_57 : decode cL_law 57 = .ok (.aload_n 2, 1) := by decide +kernel
theorem dL_law_58 : decode cL_law 58 = .ok (.aload_n 0, 1) := by decide +kernel
theorem dL_law_59 : decode cL_law 59 = .ok (.iload 4, 2) := by decide +kernel
theorem dL_law_61 : decode cL_law 61 = .ok (.invokestatic 41, 3) := by decide +kernel
theorem dL_law_64 : decode cL_law 64 = .ok (.invokevirtual 162, 3) := by decide +kernel
theorem dL_law_67 : decode cL_law 67 = .ok (.istore 7, 2) := by decide +kernel
theorem dL_law_69 : decode cL_law 69 = .ok (.aload_n 1, 1) := by decide +kernel
theorem dL_law_70 : decode cL_law 70 = .ok (.aload_n 2, 1) := by decide +kernel
theorem dL_law_71 : decode cL_law 71 = .ok (.invokevirtual 154, 3) := by decide +kernel
theorem dL_law_74 : decode cL_law 74 = .ok (.iload_n 3, 1) := by decide +kernel
theorem dL_law_75 : decode cL_law 75 = .ok (.if_icmp .ne 18, 3) := by decide +kernel
theorem dL_law_78 : decode cL_law 78 = .ok (.aload_n 2, 1) := by decide +kernel
theorem dL_law_79 : decode cL_law 79 = .ok (.invokevirtual 166, 3) := by decide +kernel
theorem dL_law_82 : decode cL_law 82 = .ok (.ifCond .ne 11, 3) := by decide +kernel
theorem dL_law_85 : decode cL_law 85 = .ok (.aload_n 1, 1) := by decide +kernel
theorem dL_law_86 : decode cL_law 86 = .ok (.aload_n 2, 1) := by decide +kernel
theorem dL_law_87 : decode cL_law 87 = .ok (.invokevirtual 169, 3) := by decide +kernel
theorem dL_law_90 : decode cL_law 90 = .ok (.ifCond .ne 5, 3) := by decide +kernel
theorem dL_law_93 : decode cL_law 93 = .ok (.iconst 0, 1) := by decide +kernel
theorem dL_law_94 : decode cL_law 94 = .ok (.ireturn, 1) := by decide +kernel
theorem dL_law_95 : decode cL_law 95 = .ok (.aload_n 2, 1) := by decide +kernel
theorem dL_law_96 : decode cL_law 96 = .ok (.invokevirtual 156, 3) := by decide +kernel
theorem dL_law_99 : decode cL_law 99 = .ok (.iload 5, 2) := by decide +kernel
theorem dL_law_101 : decode cL_law 101 = .ok (.if_icmp .lt 22, 3) := by decide +kernel
theorem dL_law_104 : decode cL_law 104 = .ok (.aload_n 2, 1) := by decide +kernel
theorem dL_law_105 : decode cL_law 105 = .ok (.invokevirtual 156, 3) := by decide +kernel
theorem dL_law_108 : decode cL_law 108 = .ok (.iload 5, 2) := by decide +kernel
theorem dL_law_110 : decode cL_law 110 = .ok (.if_icmp .le 15, 3) := by decide +kernel
theorem dL_law_113 : decode cL_law 113 = .ok (.aload_n 1, 1) := by decide +kernel
theorem dL_law_114 : decode cL_law 114 = .ok (.aload_n 2, 1) := by decide +kernel
theorem dL_law_115 : decode cL_law 115 = .ok (.invokevirtual 159, 3) := by decide +kernel
theorem dL_law_118 : decode cL_law 118 = .ok (.iload 6, 2) := by decide +kernel
theorem dL_law_120 : decode cL_law 120 = .ok (.if_icmp .ne 5, 3) := by decide +kernel
theorem dL_law_123 : decode cL_law 123 = .ok (.iconst 0, 1) := by decide +kernel
theorem dL_law_124 : decode cL_law 124 = .ok (.ireturn, 1) := by decide +kernel
theorem dL_law_125 : decode cL_law 125 = .ok (.iinc 4 1, 3) := by decide +kernel
theorem dL_law_128 : decode cL_law 128 = .ok (.goto (-92), 3) := by decide +kernel
theorem dL_law_131 : decode cL_law 131 = .ok (.iconst 1, 1) := by decide +kernel
theorem dL_law_132 : decode cL_law 132 = .ok (.ireturn, 1) := by decide +kernel
theorem dL_coins_0 : decode cL_coins 0 = .ok (.aload_n 1, 1) := by decide +kernel
theorem dL_coins_1 : decode cL_coins 1 = .ok (.invokevirtual 91, 3) := by decide +kernel
theorem dL_coins_4 : decode cL_coins 4 = .ok (.aload_n 1, 1) := by decide +kernel
theorem dL_coins_5 : decode cL_coins 5 = .ok (.iconst 0, 1) := by decide +kernel
theorem dL_coins_6 : decode cL_coins 6 = .ok (.invokevirtual 111, 3) := by decide +kernel
theorem dL_coins_9 : decode cL_coins 9 = .ok (.iadd, 1) := by decide +kernel
theorem dL_coins_10 : decode cL_coins 10 = .ok (.aload_n 1, 1) := by decide +kernel
theorem dL_coins_11 : decode cL_coins 11 = .ok (.iconst 1, 1) := by decide +kernel
theorem dL_coins_12 : decode cL_coins 12 = .ok (.invokevirtual 111, 3) := by decide +kernel
theorem dL_coins_15 : decode cL_coins 15 = .ok (.iadd, 1) := by decide +kernel
theorem dL_coins_16 : decode cL_coins 16 = .ok (.istore_n 2, 1) := by decide +kernel
theorem dL_coins_17 : decode cL_coins 17 = .ok (.iconst 0, 1) := by decide +kernel
theorem dL_coins_18 : decode cL_coins 18 = .ok (.istore_n 3, 1) := by decide +kernel
theorem dL_coins_19 : decode cL_coins 19 = .ok (.iload_n 3, 1) := by decide +kernel
theorem dL_coins_20 : decode cL_coins 20 = .ok (.aload_n 0, 1) := by decide +kernel
theorem dL_coins_21 : decode cL_coins 21 = .ok (.getfield 45, 3) := by decide +kernel
theorem dL_coins_24 : decode cL_coins 24 = .ok (.if_icmp .ge 17, 3) := by decide +kernel
theorem dL_coins_27 : decode cL_coins 27 = .ok (.iload_n 2, 1) := by decide +kernel
theorem dL_coins_28 : decode cL_coins 28 = .ok (.aload_n 1, 1) := by decide +kernel
theorem dL_coins_29 : decode cL_coins 29 = .ok (.iload_n 3, 1) := by decide +kernel
theorem dL_coins_30 : decode cL_coins 30 = .ok (.invokevirtual 101, 3) := by decide +kernel
theorem dL_coins_33 : decode cL_coins 33 = .ok (.iadd, 1) := by decide +kernel
theorem dL_coins_34 : decode cL_coins 34 = .ok (.istore_n 2, 1) := by decide +kernel
theorem dL_coins_35 : decode cL_coins 35 = .ok (.iinc 3 1, 3) := by decide +kernel
theorem dL_coins_38 : decode cL_coins 38 = .ok (.goto (-19), 3) := by decide +kernel
theorem dL_coins_41 : decode cL_coins 41 = .ok (.iload_n 2, 1) := by decide +kernel
theorem dL_coins_42 : decode cL_coins 42 = .ok (.ireturn, 1) := by decide +kernel
theorem dL_crossed_0 : decode cL_crossed 0 = .ok (.iconst 0, 1) := by decide +kernel
theorem dL_crossed_1 : decode cL_crossed 1 = .ok (.istore_n 2, 1) := by decide +kernel
theorem dL_crossed_2 : decode cL_crossed 2 = .ok (.iconst 0, 1) := by decide +kernel
theorem dL_crossed_3 : decode cL_crossed 3 = .ok (.istore_n 3, 1) := by decide +kernel
theorem dL_crossed_4 : decode cL_crossed 4 = .ok (.iload_n 3, 1) := by decide +kernel
theorem dL_crossed_5 : decode cL_crossed 5 = .ok (.aload_n 0, 1) := by decide +kernel
theorem dL_crossed_6 : decode cL_crossed 6 = .ok (.getfield 45, 3) := by decide +kernel
theorem dL_crossed_9 : decode cL_crossed 9 = .ok (.if_icmp .ge 17, 3) := by decide +kernel
theorem dL_crossed_12 : decode cL_crossed 12 = .ok (.iload_n 2, 1) := by decide +kernel
theorem dL_crossed_13 : decode cL_crossed 13 = .ok (.aload_n 1, 1) := by decide +kernel
theorem dL_crossed_14 : decode cL_crossed 14 = .ok (.iload_n 3, 1) := by decide +kernel
theorem dL_crossed_15 : decode cL_crossed 15 = .ok (.invokevirtual 173, 3) := by decide +kernel
theorem dL_crossed_18 : decode cL_crossed 18 = .ok (.iadd, 1) := by decide +kernel
theorem dL_crossed_19 : decode cL_crossed 19 = .ok (.istore_n 2, 1) := by decide +kernel
theorem dL_crossed_20 : decode cL_crossed 20 = .ok (.iinc 3 1, 3) := by decide +kernel
theorem dL_crossed_23 : decode cL_crossed 23 = .ok (.goto (-19), 3) := by decide +kernel
theorem dL_crossed_26 : decode cL_crossed 26 = .ok (.iload_n 2, 1) := by decide +kernel
theorem dL_crossed_27 : decode cL_crossed 27 = .ok (.ireturn, 1) := by decide +kernel
theorem dL_isWell_0 : decode cL_isWell 0 = .ok (.iconst 0, 1) := by decide +kernel
theorem dL_isWell_1 : decode cL_isWell 1 = .ok (.istore_n 2, 1) := by decide +kernel
theorem dL_isWell_2 : decode cL_isWell 2 = .ok (.iconst 0, 1) := by decide +kernel
theorem dL_isWell_3 : decode cL_isWell 3 = .ok (.istore_n 3, 1) := by decide +kernel
theorem dL_isWell_4 : decode cL_isWell 4 = .ok (.iconst 0, 1) := by decide +kernel
theorem dL_isWell_5 : decode cL_isWell 5 = .ok (.istore 4, 2) := by decide +kernel
theorem dL_isWell_7 : decode cL_isWell 7 = .ok (.iconst 0, 1) := by decide +kernel
theorem dL_isWell_8 : decode cL_isWell 8 = .ok (.istore 5, 2) := by decide +kernel
theorem dL_isWell_10 : decode cL_isWell 10 = .ok (.iconst 0, 1) := by decide +kernel
theorem dL_isWell_11 : decode cL_isWell 11 = .ok (.istore 6, 2) := by decide +kernel
theorem dL_isWell_13 : decode cL_isWell 13 = .ok (.iload 6, 2) := by decide +kernel
theorem dL_isWell_15 : decode cL_isWell 15 = .ok (.aload_n 0, 1) := by decide +kernel
theorem dL_isWell_16 : decode cL_isWell 16 = .ok (.getfield 45, 3) := by decide +kernel
theorem dL_isWell_19 : decode cL_isWell 19 = .ok (.if_icmp .ge 131, 3) := by decide +kernel
theorem dL_isWell_22 : decode cL_isWell 22 = .ok (.aload_n 1, 1) := by decide +kernel
theorem dL_isWell_23 : decode cL_isWell 23 = .ok (.aload_n 1, 1) := by decide +kernel
theorem dL_isWell_24 : decode cL_isWell 24 = .ok (.iload 6, 2) := by decide +kernel
theorem dL_isWell_26 : decode cL_isWell 26 = .ok (.invokevirtual 176, 3) := by decide +kernel
theorem dL_isWell_29 : decode cL_isWell 29 = .ok (.invokevirtual 179, 3) := by decide +kernel
theorem dL_isWell_32 : decode cL_isWell 32 = .ok (.iload 6, 2) := by decide +kernel
theorem dL_isWell_34 : decode cL_isWell 34 = .ok (.if_icmp .ne 18, 3) := by decide +kernel
theorem dL_isWell_37 : decode cL_isWell 37 = .ok (.aload_n 1, 1) := by decide +kernel
theorem dL_isWell_38 : decode cL_isWell 38 = .ok (.aload_n 1, 1) := by decide +kernel
theorem dL_isWell_39 : decode cL_isWell 39 = .ok (.iload 6, 2) := by decide +kernel
theorem dL_isWell_41 : decode cL_isWell 41 = .ok (.invokevirtual 179, 3) := by decide +kernel
theorem dL_isWell_44 : decode cL_isWell 44 = .ok (.invokevirtual 176, 3) := by decide +kernel
theorem dL_isWell_47 : decode cL_isWell 47 = .ok (.iload 6, 2) := by decide +kernel
theorem dL_isWell_49 : decode cL_isWell 49 = .ok (.if_icmp .eq 5, 3) := by decide +kernel
theorem dL_isWell_52 : decode cL_isWell 52 = .ok (.iconst 0, 1) := by decide +kernel
theorem dL_isWell_53 : decode cL_isWell 53 = .ok (.ireturn, 1) := by decide +kernel
theorem dL_isWell_54 : decode cL_isWell 54 = .ok (.iload 5, 2) := by decide +kernel
theorem dL_isWell_56 : decode cL_isWell 56 = .ok (.aload_n 1, 1) := by decide +kernel
theorem dL_isWell_57 : decode cL_isWell 57 = .ok (.iload 6, 2) := by decide +kernel
theorem dL_isWell_59 : decode cL_isWell 59 = .ok (.invokevirtual 182, 3) := by decide +kernel
theorem dL_isWell_62 : decode cL_isWell 62 = .ok (.iadd, 1) := by decide +kernel
theorem dL_isWell_63 : decode cL_isWell 63 = .ok (.istore 5, 2) := by decide +kernel
theorem dL_isWell_65 : decode cL_isWell 65 = .ok (.aload_n 1, 1) := by decide +kernel
theorem dL_isWell_66 : decode cL_isWell 66 = .ok (.iload 6, 2) := by decide +kernel
theorem dL_isWell_68 : decode cL_isWell 68 = .ok (.invokevirtual 94, 3) := by decide +kernel
theorem dL_isWell_71 : decode cL_isWell 71 = .ok (.ifCond .ne 6, 3) := by decide +kernel
theorem dL_isWell_74 : decode cL_isWell 74 = .ok (.goto 70, 3) := by decide +kernel
theorem dL_isWell_77 : decode cL_isWell 77 = .ok (.iinc 2 1, 3) := by decide +kernel
theorem dL_isWell_80 : decode cL_isWell 80 = .ok (.iload_n 3, 1) := by decide +kernel
theorem dL_isWell_81 : decode cL_isWell 81 = .ok (.aload_n 1, 1) := by decide +kernel
theorem dL_isWell_82 : decode cL_isWell 82 = .ok (.iload 6, 2) := by decide +kernel
theorem dL_isWell_84 : decode cL_isWell 84 = .ok (.invokevirtual 185, 3) := by decide +kernel
theorem dL_isWell_87 : decode cL_isWell 87 = .ok (.ifCond .eq 7, 3) := by decide +kernel
theorem dL_isWell_90 : decode cL_isWell 90 = .ok (.iconst 1, 1) := by decide +kernel
theorem dL_isWell_91 : decode cL_isWell 91 = .ok (.goto 4, 3) := by decide +kernel
theorem dL_isWell_94 : decode cL_isWell 94 = .ok (.iconst 0, 1) := by decide +kernel
theorem dL_isWell_95 : decode cL_isWell 95 = .ok (.iadd, 1) := by decide +kernel
theorem dL_isWell_96 : decode cL_isWell 96 = .ok (.istore_n 3, 1) := by decide +kernel
theorem dL_isWell_97 : decode cL_isWell 97 = .ok (.aload_n 1, 1) := by decide +kernel
theorem dL_isWell_98 : decode cL_isWell 98 = .ok (.iload 6, 2) := by decide +kernel
theorem dL_isWell_100 : decode cL_isWell 100 = .ok (.invokevirtual 118, 3) := by decide +kernel
theorem dL_isWell_103 : decode cL_isWell 103 = .ok (.istore 7, 2) := by decide +kernel
theorem dL_isWell_105 : decode cL_isWell 105 = .ok (.iload 4, 2) := by decide +kernel
theorem dL_isWell_107 : decode cL_isWell 107 = .ok (.iload 7, 2) := by decide +kernel
theorem dL_isWell_109 : decode cL_isWell 109 = .ok (.iconst (-1), 1) := by decide +kernel
theorem dL_isWell_110 : decode cL_isWell 110 = .ok (.if_icmp .ne 7, 3) := by decide +kernel
theorem dL_isWell_113 : decode cL_isWell 113 = .ok (.iconst 0, 1) := by decide +kernel
theorem dL_isWell_114 : decode cL_isWell 114 = .ok (.goto 4, 3) := by decide +kernel
theorem dL_isWell_117 : decode cL_isWell 117 = .ok (.iconst 1, 1) := by decide +kernel
theorem dL_isWell_118 : decode cL_isWell 118 = .ok (.iadd, 1) := by decide +kernel
theorem dL_isWell_119 : decode cL_isWell 119 = .ok (.istore 4, 2) := by decide +kernel
theorem dL_isWell_121 : decode cL_isWell 121 = .ok (.iload 7, 2) := by decide +kernel
theorem dL_isWell_123 : decode cL_isWell 123 = .ok (.iconst (-1), 1) := by decide +kernel
theorem dL_isWell_124 : decode cL_isWell 124 = .ok (.if_icmp .eq 20, 3) := by decide +kernel
theorem dL_isWell_127 : decode cL_isWell 127 = .ok (.aload_n 1, 1) := by decide +kernel
theorem dL_isWell_128 : decode cL_isWell 128 = .ok (.iload 6, 2) := by decide +kernel
theorem dL_isWell_130 : decode cL_isWell 130 = .ok (.invokevirtual 124, 3) := by decide +kernel
theorem dL_isWell_133 : decode cL_isWell 133 = .ok (.aload_n 1, 1) := by decide +kernel
theorem dL_isWell_134 : decode cL_isWell 134 = .ok (.iload 7, 2) := by decide +kernel
theorem dL_isWell_136 : decode cL_isWell 136 = .ok (.invokevirtual 108, 3) := by decide +kernel
theorem dL_isWell_139 : decode cL_isWell 139 = .ok (.if_icmp .eq 5, 3) := by decide +kernel
theorem dL_isWell_142 : decode cL_isWell 142 = .ok (.iconst 0, 1) := by decide +kernel
theorem dL_isWell_143 : decode cL_isWell 143 = .ok (.ireturn, 1) := by decide +kernel
theorem dL_isWell_144 : decode cL_isWell 144 = .ok (.iinc 6 1, 3) := by decide +kernel
theorem dL_isWell_147 : decode cL_isWell 147 = .ok (.goto (-134), 3) := by decide +kernel
theorem dL_isWell_150 : decode cL_isWell 150 = .ok (.iload_n 2, 1) := by decide +kernel
theorem dL_isWell_151 : decode cL_isWell 151 = .ok (.aload_n 1, 1) := by decide +kernel
theorem dL_isWell_152 : decode cL_isWell 152 = .ok (.invokevirtual 188, 3) := by decide +kernel
theorem dL_isWell_155 : decode cL_isWell 155 = .ok (.if_icmp .ne 74, 3) := by decide +kernel
theorem dL_isWell_158 : decode cL_isWell 158 = .ok (.iload_n 3, 1) := by decide +kernel
theorem dL_isWell_159 : decode cL_isWell 159 = .ok (.aload_n 1, 1) := by decide +kernel
theorem dL_isWell_160 : decode cL_isWell 160 = .ok (.invokevirtual 156, 3) := by decide +kernel
theorem dL_isWell_163 : decode cL_isWell 163 = .ok (.if_icmp .ne 66, 3) := by decide +kernel
theorem dL_isWell_166 : decode cL_isWell 166 = .ok (.iload 4, 2) := by decide +kernel
theorem dL_isWell_168 : decode cL_isWell 168 = .ok (.iload 5, 2) := by decide +kernel
theorem dL_isWell_170 : decode cL_isWell 170 = .ok (.if_icmp .ne 59, 3) := by decide +kernel
theorem dL_isWell_173 : decode cL_isWell 173 = .ok (.aload_n 1, 1) := by decide +kernel
theorem dL_isWell_174 : decode cL_isWell 174 = .ok (.iconst 0, 1) := by decide +kernel
theorem dL_isWell_175 : decode cL_isWell 175 = .ok (.invokevirtual 191, 3) := by decide +kernel
theorem dL_isWell_178 : decode cL_isWell 178 = .ok (.aload_n 1, 1) := by decide +kernel
theorem dL_isWell_179 : decode cL_isWell 179 = .ok (.iconst 1, 1) := by decide +kernel
theorem dL_isWell_180 : decode cL_isWell 180 = .ok (.invokevirtual 191, 3) := by decide +kernel
theorem dL_isWell_183 : decode cL_isWell 183 = .ok (.iadd, 1) := by decide +kernel
theorem dL_isWell_184 : decode cL_isWell 184 = .ok (.aload_n 0, 1) := by decide +kernel
theorem dL_isWell_185 : decode cL_isWell 185 = .ok (.getfield 45, 3) := by decide +kernel
theorem dL_isWell_188 : decode cL_isWell 188 = .ok (.if_icmp .ne 41, 3) := by decide +kernel
theorem dL_isWell_191 : decode cL_isWell 191 = .ok (.aload_n 0, 1) := by decide +kernel
theorem dL_isWell_192 : decode cL_isWell 192 = .ok (.aload_n 1, 1) := by decide +kernel
theorem dL_isWell_193 : decode cL_isWell 193 = .ok (.iconst 0, 1) := by decide +kernel
theorem dL_isWell_194 : decode cL_isWell 194 = .ok (.invokevirtual 194, 3) := by decide +kernel
theorem dL_isWell_197 : decode cL_isWell 197 = .ok (.ifCond .eq 32, 3) := by decide +kernel
theorem dL_isWell_200 : decode cL_isWell 200 = .ok (.aload_n 0, 1) := by decide +kernel
theorem dL_isWell_201 : decode cL_isWell 201 = .ok (.aload_n 1, 1) := by decide +kernel
theorem dL_isWell_202 : decode cL_isWell 202 = .ok (.iconst 1, 1) := by decide +kernel
theorem dL_isWell_203 : decode cL_isWell 203 = .ok (.invokevirtual 194, 3) := by decide +kernel
theorem dL_isWell_206 : decode cL_isWell 206 = .ok (.ifCond .eq 23, 3) := by decide +kernel
theorem dL_isWell_209 : decode cL_isWell 209 = .ok (.aload_n 1, 1) := by decide +kernel
theorem dL_isWell_210 : decode cL_isWell 210 = .ok (.invokevirtual 198, 3) := by decide +kernel
theorem dL_isWell_213 : decode cL_isWell 213 = .ok (.ifCond .lt 16, 3) := by decide +kernel
theorem dL_isWell_216 : decode cL_isWell 216 = .ok (.aload_n 1, 1) := by decide +kernel
theorem dL_isWell_217 : decode cL_isWell 217 = .ok (.invokevirtual 198, 3) := by decide +kernel
theorem dL_isWell_220 : decode cL_isWell 220 = .ok (.bipush 90, 2) := by decide +kernel
theorem dL_isWell_222 : decode cL_isWell 222 = .ok (.if_icmp .gt 7, 3) := by decide +kernel
theorem dL_isWell_225 : decode cL_isWell 225 = .ok (.iconst 1, 1) := by decide +kernel
theorem dL_isWell_226 : decode cL_isWell 226 = .ok (.goto 4, 3) := by decide +kernel
theorem dL_isWell_229 : decode cL_isWell 229 = .ok (.iconst 0, 1) := by decide +kernel
theorem dL_isWell_230 : decode cL_isWell 230 = .ok (.ireturn, 1) := by decide +kernel
theorem dL_isOrdered_0 : decode cL_isOrdered 0 = .ok (.iconst 0, 1) := by decide +kernel
theorem dL_isOrdered_1 : decode cL_isOrdered 1 = .ok (.istore_n 3, 1) := by decide +kernel
theorem dL_isOrdered_2 : decode cL_isOrdered 2 = .ok (.iconst 0, 1) := by decide +kernel
theorem dL_isOrdered_3 : decode cL_isOrdered 3 = .ok (.istore 4, 2) := by decide +kernel
theorem dL_isOrdered_5 : decode cL_isOrdered 5 = .ok (.iload 4, 2) := by decide +kernel
theorem dL_isOrdered_7 : decode cL_isOrdered 7 = .ok (.aload_n 0, 1) := by decide +kernel
theorem dL_isOrdered_8 : decode cL_isOrdered 8 = .ok (.getfield 45, 3) := by decide +kernel
theorem dL_isOrdered_11 : decode cL_isOrdered 11 = .ok (.if_icmp .ge 36, 3) := by decide +kernel
theorem dL_isOrdered_14 : decode cL_isOrdered 14 = .ok (.iload_n 3, 1) := by decide +kernel
theorem dL_isOrdered_15 : decode cL_isOrdered 15 = .ok (.aload_n 1, 1) := by decide +kernel
theorem dL_isOrdered_16 : decode cL_isOrdered 16 = .ok (.iload 4, 2) := by decide +kernel
theorem dL_isOrdered_18 : decode cL_isOrdered 18 = .ok (.invokevirtual 133, 3) := by decide +kernel
theorem dL_isOrdered_21 : decode cL_isOrdered 21 = .ok (.ifCond .lt 17, 3) := by decide +kernel
theorem dL_isOrdered_24 : decode cL_isOrdered 24 = .ok (.aload_n 1, 1) := by decide +kernel
theorem dL_isOrdered_25 : decode cL_isOrdered 25 = .ok (.iload 4, 2) := by decide +kernel
theorem dL_isOrdered_27 : decode cL_isOrdered 27 = .ok (.invokevirtual 108, 3) := by decide +kernel
theorem dL_isOrdered_30 : decode cL_isOrdered 30 = .ok (.iload_n 2, 1) := by decide +kernel
theorem dL_isOrdered_31 : decode cL_isOrdered 31 = .ok (.if_icmp .ne 7, 3) := by decide +kernel
theorem dL_isOrdered_34 : decode cL_isOrdered 34 = .ok (.iconst 1, 1) := by decide +kernel
theorem dL_isOrdered_35 : decode cL_isOrdered 35 = .ok (.goto 4, 3) := by decide +kernel
theorem dL_isOrdered_38 : decode cL_isOrdered 38 = .ok (.iconst 0, 1) := by decide +kernel
theorem dL_isOrdered_39 : decode cL_isOrdered 39 = .ok (.iadd, 1) := by decide +kernel
theorem dL_isOrdered_40 : decode cL_isOrdered 40 = .ok (.istore_n 3, 1) := by decide +kernel
theorem dL_isOrdered_41 : decode cL_isOrdered 41 = .ok (.iinc 4 1, 3) := by decide +kernel
theorem dL_isOrdered_44 : decode cL_isOrdered 44 = .ok (.goto (-39), 3) := by decide +kernel
theorem dL_isOrdered_47 : decode cL_isOrdered 47 = .ok (.aload_n 1, 1) := by decide +kernel
theorem dL_isOrdered_48 : decode cL_isOrdered 48 = .ok (.iload_n 2, 1) := by decide +kernel
theorem dL_isOrdered_49 : decode cL_isOrdered 49 = .ok (.invokevirtual 201, 3) := by decide +kernel
theorem dL_isOrdered_52 : decode cL_isOrdered 52 = .ok (.iload_n 3, 1) := by decide +kernel
theorem dL_isOrdered_53 : decode cL_isOrdered 53 = .ok (.if_icmp .ne 23, 3) := by decide +kernel
theorem dL_isOrdered_56 : decode cL_isOrdered 56 = .ok (.aload_n 1, 1) := by decide +kernel
theorem dL_isOrdered_57 : decode cL_isOrdered 57 = .ok (.iload_n 2, 1) := by decide +kernel
theorem dL_isOrdered_58 : decode cL_isOrdered 58 = .ok (.iload_n 3, 1) := by decide +kernel
theorem dL_isOrdered_59 : decode cL_isOrdered 59 = .ok (.invokevirtual 204, 3) := by decide +kernel
theorem dL_isOrdered_62 : decode cL_isOrdered 62 = .ok (.iconst (-1), 1) := by decide +kernel
theorem dL_isOrdered_63 : decode cL_isOrdered 63 = .ok (.if_icmp .ne 13, 3) := by decide +kernel
theorem dL_isOrdered_66 : decode cL_isOrdered 66 = .ok (.aload_n 1, 1) := by decide +kernel
theorem dL_isOrdered_67 : decode cL_isOrdered 67 = .ok (.iload_n 2, 1) := by decide +kernel
theorem dL_isOrdered_68 : decode cL_isOrdered 68 = .ok (.iconst (-1), 1) := by decide +kernel
theorem dL_isOrdered_69 : decode cL_isOrdered 69 = .ok (.invokevirtual 204, 3) := by decide +kernel
theorem dL_isOrdered_72 : decode cL_isOrdered 72 = .ok (.iconst (-1), 1) := by decide +kernel
theorem dL_isOrdered_73 : decode cL_isOrdered 73 = .ok (.if_icmp .eq 5, 3) := by decide +kernel
theorem dL_isOrdered_76 : decode cL_isOrdered 76 = .ok (.iconst 0, 1) := by decide +kernel
theorem dL_isOrdered_77 : decode cL_isOrdered 77 = .ok (.ireturn, 1) := by decide +kernel
theorem dL_isOrdered_78 : decode cL_isOrdered 78 = .ok (.iconst 0, 1) := by decide +kernel
theorem dL_isOrdered_79 : decode cL_isOrdered 79 = .ok (.istore 4, 2) := by decide +kernel
theorem dL_isOrdered_81 : decode cL_isOrdered 81 = .ok (.iload 4, 2) := by decide +kernel
theorem dL_isOrdered_83 : decode cL_isOrdered 83 = .ok (.iload_n 3, 1) := by decide +kernel
theorem dL_isOrdered_84 : decode cL_isOrdered 84 = .ok (.if_icmp .ge 68, 3) := by decide +kernel
theorem dL_isOrdered_87 : decode cL_isOrdered 87 = .ok (.aload_n 1, 1) := by decide +kernel
theorem dL_isOrdered_88 : decode cL_isOrdered 88 = .ok (.iload_n 2, 1) := by decide +kernel
theorem dL_isOrdered_89 : decode cL_isOrdered 89 = .ok (.iload 4, 2) := by decide +kernel
theorem dL_isOrdered_91 : decode cL_isOrdered 91 = .ok (.invokevirtual 204, 3) := by decide +kernel
theorem dL_isOrdered_94 : decode cL_isOrdered 94 = .ok (.istore 5, 2) := by decide +kernel
theorem dL_isOrdered_96 : decode cL_isOrdered 96 = .ok (.aload_n 1, 1) := by decide +kernel
theorem dL_isOrdered_97 : decode cL_isOrdered 97 = .ok (.iload 5, 2) := by decide +kernel
theorem dL_isOrdered_99 : decode cL_isOrdered 99 = .ok (.invokevirtual 108, 3) := by decide +kernel
theorem dL_isOrdered_102 : decode cL_isOrdered 102 = .ok (.iload_n 2, 1) := by decide +kernel
theorem dL_isOrdered_103 : decode cL_isOrdered 103 = .ok (.if_icmp .ne 12, 3) := by decide +kernel
theorem dL_isOrdered_106 : decode cL_isOrdered 106 = .ok (.aload_n 1, 1) := by decide +kernel
theorem dL_isOrdered_107 : decode cL_isOrdered 107 = .ok (.iload 5, 2) := by decide +kernel
theorem dL_isOrdered_109 : decode cL_isOrdered 109 = .ok (.invokevirtual 133, 3) := by decide +kernel
theorem dL_isOrdered_112 : decode cL_isOrdered 112 = .ok (.ifCond .ge 5, 3) := by decide +kernel
theorem dL_isOrdered_115 : decode cL_isOrdered 115 = .ok (.iconst 0, 1) := by decide +kernel
theorem dL_isOrdered_116 : decode cL_isOrdered 116 = .ok (.ireturn, 1) := by decide +kernel
theorem dL_isOrdered_117 : decode cL_isOrdered 117 = .ok (.iload 4, 2) := by decide +kernel
theorem dL_isOrdered_119 : decode cL_isOrdered 119 = .ok (.ifCond .le 27, 3) := by decide +kernel
theorem dL_isOrdered_122 : decode cL_isOrdered 122 = .ok (.aload_n 1, 1) := by decide +kernel
theorem dL_isOrdered_123 : decode cL_isOrdered 123 = .ok (.iload 5, 2) := by decide +kernel
theorem dL_isOrdered_125 : decode cL_isOrdered 125 = .ok (.invokevirtual 133, 3) := by decide +kernel
theorem dL_isOrdered_128 : decode cL_isOrdered 128 = .ok (.aload_n 1, 1) := by decide +kernel
theorem dL_isOrdered_129 : decode cL_isOrdered 129 = .ok (.aload_n 1, 1) := by decide +kernel
theorem dL_isOrdered_130 : decode cL_isOrdered 130 = .ok (.iload_n 2, 1) := by decide +kernel
theorem dL_isOrdered_131 : decode cL_isOrdered 131 = .ok (.iload 4, 2) := by decide +kernel
theorem dL_isOrdered_133 : decode cL_isOrdered 133 = .ok (.iconst 1, 1) := by decide +kernel
theorem dL_isOrdered_134 : decode cL_isOrdered 134 = .ok (.isub, 1) := by decide +kernel
theorem dL_isOrdered_135 : decode cL_isOrdered 135 = .ok (.invokevirtual 204, 3) := by decide +kernel
theorem dL_isOrdered_138 : decode cL_isOrdered 138 = .ok (.invokevirtual 133, 3) := by decide +kernel
theorem dL_isOrdered_141 : decode cL_isOrdered 141 = .ok (.if_icmp .le 5, 3) := by decide +kernel
theorem dL_isOrdered_144 : decode cL_isOrdered 144 = .ok (.iconst 0, 1) := by decide +kernel
theorem dL_isOrdered_145 : decode cL_isOrdered 145 = .ok (.ireturn, 1) := by decide +kernel
theorem dL_isOrdered_146 : decode cL_isOrdered 146 = .ok (.iinc 4 1, 3) := by decide +kernel
theorem dL_isOrdered_149 : decode cL_isOrdered 149 = .ok (.goto (-68), 3) := by decide +kernel
theorem dL_isOrdered_152 : decode cL_isOrdered 152 = .ok (.iconst 1, 1) := by decide +kernel
theorem dL_isOrdered_153 : decode cL_isOrdered 153 = .ok (.ireturn, 1) := by decide +kernel
end
section
/-! The frame of this proof. One picture for all methods: h is what lies at the addresses from the law's start on (k 0) up to the heap's size n; a method is walked over h, and its contract says which h it leaves. k: the numbers of the world (k 0 the first address; k 1 .. k 4 the array classes). -/
abbrev ob : Type := (Nat → Int32) × (Nat → Nat → Int32)
abbrev hp : Type := Nat → Option va_E
def rx_good : List Cond := lw_tbl.filter goodWord
theorem rx_g (i : Nat) {w : Cond} (h : lw_tbl[i]? = some w) (hg : goodWord w = true) : w ∈ rx_good := List.mem_filter.mpr ⟨List.mem_of_getElem? h, hg⟩
theorem rx_gall : rx_good.all goodWord = true := List.all_eq_true.mpr fun _ h => (List.mem_filter.mp h).2
def rx_isNest : Cond → Bool
  | .methodLinkNest .. => true
  | .fieldLinkNest .. => true
  | .declares _ => true
  | .castable .. => true
  | _ => false
def rx_nest : List Cond := lw_tbl.filter rx_isNest
theorem rx_n (i : Nat) {w : Cond} (h : lw_tbl[i]? = some w) (hg : rx_isNest w = true) : w ∈ rx_nest := List.mem_filter.mpr ⟨List.mem_of_getElem? h, hg⟩
/-- the words of a method: its own code, then all good ones -/
def rx_ws (y : MethodName) (cc : ByteArray) (maxL : Nat) (ret : Option FieldType) : List Cond := Cond.code y cc maxL ret :: rx_good
theorem rx_goodIn {ws : List Cond} (h : ∀ w ∈ ws, w ∈ rx_good) : GoodIn rx_good ws := fun w hw => ⟨h w hw, good_of_word (List.all_eq_true.mp rx_gall w (h w hw))⟩
theorem rx_goodWs {y : MethodName} {cc : ByteArray} {maxL : Nat} {ret : Option FieldType} (h : Cond.code y cc maxL ret ∈ rx_good) : GoodIn rx_good (rx_ws y cc maxL ret) := rx_goodIn fun w hw => by
  rcases List.mem_cons.mp hw with rfl | hw
  · exact h
  · exact hw
/-- the picture of the heap: what is known lies from B on, below the size -/
def rx_P (G : va_G) (B : Nat) (h : hp) (n : Nat) (H : Heap) : Prop := H.size = n ∧ B ≤ n ∧ ∀ (a : Nat) (x : va_E), h a = some x → B ≤ a ∧ a < n ∧ va_at G vwCl (a, x) H
theorem rx_P.one {G : va_G} {B : Nat} {h : hp} {n : Nat} {H : Heap} (hP : rx_P G B h n H) {a : Nat} {x : va_E} (ha : h a = some x) : va_P G vwCl [(a, x)] H := fun j q hj => by
  cases j with
  | zero => cases hj; exact (hP.2.2 a x ha).2.2
  | succ j => simp at hj
theorem rx_P.two {G : va_G} {B : Nat} {h : hp} {n : Nat} {H : Heap} (hP : rx_P G B h n H) {a b : Nat} {x y : va_E} (ha : h a = some x) (hb : h b = some y) : va_P G vwCl [(a, x), (b, y)] H := fun j q hj => by
  match j with
  | 0 => cases hj; exact (hP.2.2 a x ha).2.2
  | 1 => cases hj; exact (hP.2.2 b y hb).2.2
  | j + 2 => simp at hj
theorem rx_P.put {G : va_G} {B : Nat} {h : hp} {n : Nat} {H H1 : Heap} (hP : rx_P G B h n H) {a : Nat} {x y : va_E} (ha : h a = some x) (hat : va_at G vwCl (a, y) H1) (hz : H1.size = H.size) (hq : ∀ q, q ≠ a → H1[q]? = H[q]?) : rx_P G B (va_up h a (some y)) n H1 := by
  obtain ⟨h1, h2, h3⟩ := hP
  refine ⟨hz.trans h1, h2, fun b z hb => ?_⟩
  by_cases e : b = a
  · subst e
    have hz2 : some y = some z := by rw [← hb]; simp [va_up]
    cases hz2
    exact ⟨(h3 b x ha).1, (h3 b x ha).2.1, hat⟩
  · have hb2 : h b = some z := by rw [← hb]; simp [va_up, e]
    obtain ⟨g1, g2, g3⟩ := h3 b z hb2
    exact ⟨g1, g2, g3.kept (hq b e)⟩
theorem rx_P.new {G : va_G} {B : Nat} {h : hp} {n : Nat} {H H1 : Heap} (hP : rx_P G B h n H) {y : va_E} (hat : va_at G vwCl (n, y) H1) (hz : H1.size = n + 1) (hq : ∀ q, q < n → H1[q]? = H[q]?) : rx_P G B (va_up h n (some y)) (n + 1) H1 := by
  obtain ⟨h1, h2, h3⟩ := hP
  refine ⟨hz, Nat.le_succ_of_le h2, fun b z hb => ?_⟩
  by_cases e : b = n
  · subst e
    have hz2 : some y = some z := by rw [← hb]; simp [va_up]
    cases hz2
    exact ⟨h2, Nat.lt_succ_self _, hat⟩
  · have hb2 : h b = some z := by rw [← hb]; simp [va_up, e]
    obtain ⟨g1, g2, g3⟩ := h3 b z hb2
    exact ⟨g1, Nat.lt_succ_of_lt g2, g3.kept (hq b g2)⟩
theorem rx_P.none {G : va_G} {B : Nat} {h : hp} {n : Nat} {H : Heap} (hP : rx_P G B h n H) {a : Nat} (ha : n ≤ a) : h a = none := by
  cases e : h a with
  | none => rfl
  | some x => have := (hP.2.2 a x e).2.1; omega
/-- the array classes: k 1 of ints, k 2 of bytes, k 3 of Positions, k 4 of Verbs -/
abbrev rx_tys (k : Nat → Nat) : List (ClassId × FieldType) := [(k 1, .int), (k 2, .byte), (k 3, .object RX2), (k 4, .object RX7)]
/-- what the machine's tables say, at a state -/
def rx_V (G : va_G) (k : Nat → Nat) (U : State) : Prop := va_K G vwCl (rx_tys k) U ∧ (∀ w ∈ rx_nest, va_Nw w U) ∧ va_AO RX2 U ∧ va_AO RX7 U
theorem rx_nw {w : Cond} {s U : State} (h : rx_isNest w = true) (hW : s.WarmedH U.vm) (hw : va_Nw w s) : va_Nw w U := by
  cases w <;> first | exact va_Nw.warmF hW hw | exact va_Nw.warmM hW hw | exact va_Nw.warmD hW hw | exact va_Nw.warmC hW hw | (simp [rx_isNest] at h; done)
theorem rx_V.warm {G : va_G} {k : Nat → Nat} {s U : State} (hW : s.WarmedH U.vm) (h : rx_V G k s) : rx_V G k U := ⟨va_K.moved hW.alike h.1, fun w hw => rx_nw (List.mem_filter.mp hw).2 hW (h.2.1 w hw), va_AO.moved hW.alike h.2.2.1, va_AO.moved hW.alike h.2.2.2⟩
theorem rx_nws {w : Cond} {u U : State} (hv : u.vm = U.vm) (h : rx_isNest w = true) (hw : va_Nw w u) : va_Nw w U := va_Nw.same (by cases w <;> first | rfl | (simp [rx_isNest] at h; done)) hv hw
theorem rx_V.same {G : va_G} {k : Nat → Nat} {u U : State} (hv : u.vm = U.vm) (h : rx_V G k u) : rx_V G k U := ⟨va_K.moved (hv ▸ Vm.Alike.refl u.vm) h.1, fun w hw => rx_nws hv (List.mem_filter.mp hw).2 (h.2.1 w hw), va_AO.moved (hv ▸ Vm.Alike.refl u.vm) h.2.2.1, va_AO.moved (hv ▸ Vm.Alike.refl u.vm) h.2.2.2⟩
/-- a link of a class's pool to field j of class ci -/
def rx_F (own : String) (index ci j : Nat) : Prop := ∃ (Cn : String) (T : u_T) (N : Nat), vwCl[ci]? = some (Cn, T, N) ∧ (∀ w ∈ u_ws Cn T N, w ∈ rx_good) ∧ j < N ∧ Cond.fieldLink own index (T j).1 (T j).2.1 (T j).2.2.1 ∈ rx_good
def rx_FN (own : String) (index ci j : Nat) : Prop := ∃ (Cn : String) (T : u_T) (N : Nat) (host : String), vwCl[ci]? = some (Cn, T, N) ∧ (∀ w ∈ u_ws Cn T N, w ∈ rx_good) ∧ j < N ∧ Cond.fieldLinkNest own index (T j).1 (T j).2.1 (T j).2.2.1 host ∈ rx_nest
/-- the fields of class ci have names and types of their own; field j's type is ty, and it is final or not -/
def rx_FT (ci j : Nat) (ty : FieldType) (fin : Bool) : Prop := ∃ (Cn : String) (T : u_T) (N : Nat) (ty0 : Nat → FieldType), vwCl[ci]? = some (Cn, T, N) ∧ (∀ i, i < N → parseFieldDescriptor (T i).2.2.1 = some (ty0 i)) ∧ (∀ a, a < N → ∀ b, b < N → a ≠ b → (T a).2.1 ≠ (T b).2.1) ∧ (T j).2.2.2 = fin ∧ parseFieldDescriptor (T j).2.2.1 = some ty ∧ (fin = true → (T j).1 = Cn)
/-- a method's tables: its code, its class, its parameters -/
def rx_Y (y : MethodName) (bytes : ByteArray) (maxL : Nat) (rt : Option FieldType) (np : Nat) : Prop := Cond.code y bytes maxL rt ∈ rx_good ∧ Cond.initialized y.cls ∈ rx_good ∧ (y.cls ≠ "java/lang/invoke/MethodHandle" ∧ y.cls ≠ "java/lang/invoke/VarHandle" ∧ (parseMethodDescriptor y.desc).map (fun d => d.parameters.length) = some np)
def rx_YV (y : MethodName) : Prop := Cond.instanceMethod y ∈ rx_good ∧ Cond.selects y.cls y y ∈ rx_good
/-- class ci: its name, its table, that it can be made -/
def rx_N (own : String) (index ci N : Nat) (fs : List Value) : Prop := ∃ (Cn : String) (T : u_T) (ty0 : Nat → FieldType), vwCl[ci]? = some (Cn, T, N) ∧ (∀ w ∈ u_ws Cn T N, w ∈ rx_good) ∧ (∀ i, i < N → parseFieldDescriptor (T i).2.2.1 = some (ty0 i)) ∧ Cond.classLink own index Cn ∈ rx_good ∧ Cond.instantiable Cn N ∈ rx_good ∧ Cond.initialized Cn ∈ rx_good ∧ ∀ j, j < N → defaultValue (ty0 j) = vp_V fs j
end
section
theorem rx_c0 {w : Cond} (h : w ∈ k2_sels lw_privs) : w ∈ lw_tbl := List.mem_append_left _ h
theorem rx_g0 (i : Nat) {w : Cond} (h : (k2_sels lw_privs)[i]? = some w) (hg : goodWord w = true) : w ∈ rx_good := List.mem_filter.mpr ⟨rx_c0 (List.mem_of_getElem? h), hg⟩
theorem rx_n0 (i : Nat) {w : Cond} (h : (k2_sels lw_privs)[i]? = some w) (hg : rx_isNest w = true) : w ∈ rx_nest := List.mem_filter.mpr ⟨rx_c0 (List.mem_of_getElem? h), hg⟩
theorem rx_c1 {w : Cond} (h : w ∈ tables_1_1) : w ∈ lw_tbl := List.mem_append_right _ (show w ∈ tables_1 from List.mem_append_left _ h)
theorem rx_g1 (i : Nat) {w : Cond} (h : (tables_1_1)[i]? = some w) (hg : goodWord w = true) : w ∈ rx_good := List.mem_filter.mpr ⟨rx_c1 (List.mem_of_getElem? h), hg⟩
theorem rx_n1 (i : Nat) {w : Cond} (h : (tables_1_1)[i]? = some w) (hg : rx_isNest w = true) : w ∈ rx_nest := List.mem_filter.mpr ⟨rx_c1 (List.mem_of_getElem? h), hg⟩
theorem rx_c2 {w : Cond} (h : w ∈ tables_1_2) : w ∈ lw_tbl := List.mem_append_right _ (show w ∈ tables_1 from List.mem_append_right _ (List.mem_append_left _ h))
theorem rx_g2 (i : Nat) {w : Cond} (h : (tables_1_2)[i]? = some w) (hg : goodWord w = true) : w ∈ rx_good := List.mem_filter.mpr ⟨rx_c2 (List.mem_of_getElem? h), hg⟩
theorem rx_n2 (i : Nat) {w : Cond} (h : (tables_1_2)[i]? = some w) (hg : rx_isNest w = true) : w ∈ rx_nest := List.mem_filter.mpr ⟨rx_c2 (List.mem_of_getElem? h), hg⟩
theorem rx_c3 {w : Cond} (h : w ∈ tables_1_3) : w ∈ lw_tbl := List.mem_append_right _ (show w ∈ tables_1 from List.mem_append_right _ (List.mem_append_right _ (List.mem_append_left _ h)))
theorem rx_g3 (i : Nat) {w : Cond} (h : (tables_1_3)[i]? = some w) (hg : goodWord w = true) : w ∈ rx_good := List.mem_filter.mpr ⟨rx_c3 (List.mem_of_getElem? h), hg⟩
theorem rx_n3 (i : Nat) {w : Cond} (h : (tables_1_3)[i]? = some w) (hg : rx_isNest w = true) : w ∈ rx_nest := List.mem_filter.mpr ⟨rx_c3 (List.mem_of_getElem? h), hg⟩
theorem rx_c4 {w : Cond} (h : w ∈ tables_1_4) : w ∈ lw_tbl := List.mem_append_right _ (show w ∈ tables_1 from List.mem_append_right _ (List.mem_append_right _ (List.mem_append_right _ (List.mem_append_left _ h))))
theorem rx_g4 (i : Nat) {w : Cond} (h : (tables_1_4)[i]? = some w) (hg : goodWord w = true) : w ∈ rx_good := List.mem_filter.mpr ⟨rx_c4 (List.mem_of_getElem? h), hg⟩
theorem rx_n4 (i : Nat) {w : Cond} (h : (tables_1_4)[i]? = some w) (hg : rx_isNest w = true) : w ∈ rx_nest := List.mem_filter.mpr ⟨rx_c4 (List.mem_of_getElem? h), hg⟩
theorem rx_c5 {w : Cond} (h : w ∈ tables_1_5) : w ∈ lw_tbl := List.mem_append_right _ (show w ∈ tables_1 from List.mem_append_right _ (List.mem_append_right _ (List.mem_append_right _ (List.mem_append_right _ (h)))))
theorem rx_g5 (i : Nat) {w : Cond} (h : (tables_1_5)[i]? = some w) (hg : goodWord w = true) : w ∈ rx_good := List.mem_filter.mpr ⟨rx_c5 (List.mem_of_getElem? h), hg⟩
theorem rx_n5 (i : Nat) {w : Cond} (h : (tables_1_5)[i]? = some w) (hg : rx_isNest w = true) : w ∈ rx_nest := List.mem_filter.mpr ⟨rx_c5 (List.mem_of_getElem? h), hg⟩
theorem rx_gl {ws : List Cond} (ps : List Nat) (hp : ws = ps.filterMap (fun i => lw_tbl[i]?)) (h : ws.all goodWord = true) : ∀ w ∈ ws, w ∈ rx_good := fun w hw => by
  have h1 := List.all_eq_true.mp h w hw
  rw [hp] at hw
  obtain ⟨i, -, hi⟩ := List.mem_filterMap.mp hw
  exact List.mem_filter.mpr ⟨List.mem_of_getElem? hi, h1⟩
theorem in_X1 : ∀ w ∈ u_ws RX1 TX1 3, w ∈ rx_good := rx_gl [298, 300, 302] (by decide +kernel) (by decide +kernel)
theorem in_X2 : ∀ w ∈ u_ws RX2 TX2 15, w ∈ rx_good := rx_gl [255, 257, 259, 261, 263, 265, 267, 269, 271, 273, 275, 277, 279, 281, 283] (by decide +kernel) (by decide +kernel)
theorem in_X3 : ∀ w ∈ u_ws RX3 TX3 3, w ∈ rx_good := rx_gl [223, 225, 227] (by decide +kernel) (by decide +kernel)
theorem in_X4 : ∀ w ∈ u_ws RX4 TX4 4, w ∈ rx_good := rx_gl [316, 318, 320, 322] (by decide +kernel) (by decide +kernel)
theorem in_X5 : ∀ w ∈ u_ws RX5 TX5 14, w ∈ rx_good := rx_gl [177, 179, 181, 183, 185, 187, 189, 191, 193, 195, 197, 199, 201, 203] (by decide +kernel) (by decide +kernel)
theorem in_X6 : ∀ w ∈ u_ws RX6 TX6 9, w ∈ rx_good := rx_gl [125, 127, 129, 131, 133, 135, 137, 139, 141] (by decide +kernel) (by decide +kernel)
theorem in_X7 : ∀ w ∈ u_ws RX7 TX7 0, w ∈ rx_good := rx_gl [] (by decide +kernel) (by decide +kernel)
theorem in_X8 : ∀ w ∈ u_ws RX8 TX8 11, w ∈ rx_good := rx_gl [375, 377, 379, 381, 383, 385, 387, 389, 391, 393, 395] (by decide +kernel) (by decide +kernel)
theorem in_L : ∀ w ∈ u_ws RL TL 5, w ∈ rx_good := rx_gl [433, 435, 437, 439, 441] (by decide +kernel) (by decide +kernel)
set_option maxRecDepth 100000 in
theorem f_X6_9 : rx_F RX6 9 5 0 := ⟨RX6, TX6, 9, rfl, in_X6, by decide, (rx_g1 37 rfl rfl)⟩
set_option maxRecDepth 100000 in
theorem f_X8_73 : rx_FN RX8 73 5 1 := ⟨RX6, TX6, 9, "BeggarKings", rfl, in_X6, by decide, (rx_n1 38 rfl rfl)⟩
set_option maxRecDepth 100000 in
theorem f_X6_19 : rx_F RX6 19 5 1 := ⟨RX6, TX6, 9, rfl, in_X6, by decide, (rx_g1 39 rfl rfl)⟩
set_option maxRecDepth 100000 in
theorem f_X6_29 : rx_F RX6 29 5 2 := ⟨RX6, TX6, 9, rfl, in_X6, by decide, (rx_g1 40 rfl rfl)⟩
set_option maxRecDepth 100000 in
theorem f_X6_41 : rx_F RX6 41 5 3 := ⟨RX6, TX6, 9, rfl, in_X6, by decide, (rx_g1 41 rfl rfl)⟩
set_option maxRecDepth 100000 in
theorem f_X6_38 : rx_F RX6 38 5 4 := ⟨RX6, TX6, 9, rfl, in_X6, by decide, (rx_g1 42 rfl rfl)⟩
set_option maxRecDepth 100000 in
theorem f_X6_32 : rx_F RX6 32 5 5 := ⟨RX6, TX6, 9, rfl, in_X6, by decide, (rx_g1 43 rfl rfl)⟩
set_option maxRecDepth 100000 in
theorem f_X6_66 : rx_F RX6 66 5 6 := ⟨RX6, TX6, 9, rfl, in_X6, by decide, (rx_g1 44 rfl rfl)⟩
set_option maxRecDepth 100000 in
theorem f_X6_26 : rx_F RX6 26 5 7 := ⟨RX6, TX6, 9, rfl, in_X6, by decide, (rx_g1 45 rfl rfl)⟩
set_option maxRecDepth 100000 in
theorem f_X8_114 : rx_FN RX8 114 5 7 := ⟨RX6, TX6, 9, "BeggarKings", rfl, in_X6, by decide, (rx_n1 46 rfl rfl)⟩
set_option maxRecDepth 100000 in
theorem f_X6_15 : rx_F RX6 15 5 8 := ⟨RX6, TX6, 9, rfl, in_X6, by decide, (rx_g1 47 rfl rfl)⟩
set_option maxRecDepth 100000 in
theorem f_X8_117 : rx_FN RX8 117 5 8 := ⟨RX6, TX6, 9, "BeggarKings", rfl, in_X6, by decide, (rx_n1 48 rfl rfl)⟩
set_option maxRecDepth 100000 in
theorem f_X5_36 : rx_F RX5 36 4 0 := ⟨RX5, TX5, 14, rfl, in_X5, by decide, (rx_g1 75 rfl rfl)⟩
set_option maxRecDepth 100000 in
theorem f_X2_57 : rx_FN RX2 57 4 0 := ⟨RX5, TX5, 14, "BeggarKings", rfl, in_X5, by decide, (rx_n1 76 rfl rfl)⟩
set_option maxRecDepth 100000 in
theorem f_X5_40 : rx_F RX5 40 4 1 := ⟨RX5, TX5, 14, rfl, in_X5, by decide, (rx_g1 77 rfl rfl)⟩
set_option maxRecDepth 100000 in
theorem f_X2_170 : rx_FN RX2 170 4 1 := ⟨RX5, TX5, 14, "BeggarKings", rfl, in_X5, by decide, (rx_n1 78 rfl rfl)⟩
set_option maxRecDepth 100000 in
theorem f_X5_43 : rx_F RX5 43 4 2 := ⟨RX5, TX5, 14, rfl, in_X5, by decide, (rx_g1 79 rfl rfl)⟩
set_option maxRecDepth 100000 in
theorem f_X5_46 : rx_F RX5 46 4 3 := ⟨RX5, TX5, 14, rfl, in_X5, by decide, (rx_g1 80 rfl rfl)⟩
set_option maxRecDepth 100000 in
theorem f_X5_49 : rx_F RX5 49 4 4 := ⟨RX5, TX5, 14, rfl, in_X5, by decide, (rx_g1 81 rfl rfl)⟩
set_option maxRecDepth 100000 in
theorem f_X8_111 : rx_FN RX8 111 4 4 := ⟨RX5, TX5, 14, "BeggarKings", rfl, in_X5, by decide, (rx_n1 82 rfl rfl)⟩
set_option maxRecDepth 100000 in
theorem f_X2_88 : rx_FN RX2 88 4 4 := ⟨RX5, TX5, 14, "BeggarKings", rfl, in_X5, by decide, (rx_n1 83 rfl rfl)⟩
set_option maxRecDepth 100000 in
theorem f_X5_52 : rx_F RX5 52 4 5 := ⟨RX5, TX5, 14, rfl, in_X5, by decide, (rx_g1 84 rfl rfl)⟩
set_option maxRecDepth 100000 in
theorem f_X2_139 : rx_FN RX2 139 4 5 := ⟨RX5, TX5, 14, "BeggarKings", rfl, in_X5, by decide, (rx_n1 85 rfl rfl)⟩
set_option maxRecDepth 100000 in
theorem f_X8_244 : rx_FN RX8 244 4 5 := ⟨RX5, TX5, 14, "BeggarKings", rfl, in_X5, by decide, (rx_n1 86 rfl rfl)⟩
set_option maxRecDepth 100000 in
theorem f_X5_9 : rx_F RX5 9 4 6 := ⟨RX5, TX5, 14, rfl, in_X5, by decide, (rx_g1 87 rfl rfl)⟩
set_option maxRecDepth 100000 in
theorem f_X2_98 : rx_FN RX2 98 4 6 := ⟨RX5, TX5, 14, "BeggarKings", rfl, in_X5, by decide, (rx_n1 88 rfl rfl)⟩
set_option maxRecDepth 100000 in
theorem f_X5_15 : rx_F RX5 15 4 7 := ⟨RX5, TX5, 14, rfl, in_X5, by decide, (rx_g1 89 rfl rfl)⟩
set_option maxRecDepth 100000 in
theorem f_X2_73 : rx_FN RX2 73 4 7 := ⟨RX5, TX5, 14, "BeggarKings", rfl, in_X5, by decide, (rx_n1 90 rfl rfl)⟩
set_option maxRecDepth 100000 in
theorem f_X5_18 : rx_F RX5 18 4 8 := ⟨RX5, TX5, 14, rfl, in_X5, by decide, (rx_g1 91 rfl rfl)⟩
set_option maxRecDepth 100000 in
theorem f_X2_78 : rx_FN RX2 78 4 8 := ⟨RX5, TX5, 14, "BeggarKings", rfl, in_X5, by decide, (rx_n1 92 rfl rfl)⟩
set_option maxRecDepth 100000 in
theorem f_X5_21 : rx_F RX5 21 4 9 := ⟨RX5, TX5, 14, rfl, in_X5, by decide, (rx_g1 93 rfl rfl)⟩
set_option maxRecDepth 100000 in
theorem f_X2_79 : rx_FN RX2 79 4 9 := ⟨RX5, TX5, 14, "BeggarKings", rfl, in_X5, by decide, (rx_n1 94 rfl rfl)⟩
set_option maxRecDepth 100000 in
theorem f_X5_24 : rx_F RX5 24 4 10 := ⟨RX5, TX5, 14, rfl, in_X5, by decide, (rx_g1 95 rfl rfl)⟩
set_option maxRecDepth 100000 in
theorem f_X2_95 : rx_FN RX2 95 4 10 := ⟨RX5, TX5, 14, "BeggarKings", rfl, in_X5, by decide, (rx_n1 96 rfl rfl)⟩
set_option maxRecDepth 100000 in
theorem f_X5_27 : rx_F RX5 27 4 11 := ⟨RX5, TX5, 14, rfl, in_X5, by decide, (rx_g1 97 rfl rfl)⟩
set_option maxRecDepth 100000 in
theorem f_X5_30 : rx_F RX5 30 4 12 := ⟨RX5, TX5, 14, rfl, in_X5, by decide, (rx_g1 98 rfl rfl)⟩
set_option maxRecDepth 100000 in
theorem f_X5_33 : rx_F RX5 33 4 13 := ⟨RX5, TX5, 14, rfl, in_X5, by decide, (rx_g1 99 rfl rfl)⟩
set_option maxRecDepth 100000 in
theorem f_X2_146 : rx_FN RX2 146 4 13 := ⟨RX5, TX5, 14, "BeggarKings", rfl, in_X5, by decide, (rx_n1 100 rfl rfl)⟩
set_option maxRecDepth 100000 in
theorem f_X3_9 : rx_F RX3 9 2 0 := ⟨RX3, TX3, 3, rfl, in_X3, by decide, (rx_g1 142 rfl rfl)⟩
set_option maxRecDepth 100000 in
theorem f_X3_15 : rx_F RX3 15 2 1 := ⟨RX3, TX3, 3, rfl, in_X3, by decide, (rx_g1 143 rfl rfl)⟩
set_option maxRecDepth 100000 in
theorem f_X3_18 : rx_F RX3 18 2 2 := ⟨RX3, TX3, 3, rfl, in_X3, by decide, (rx_g1 144 rfl rfl)⟩
set_option maxRecDepth 100000 in
theorem f_X2_70 : rx_FN RX2 70 2 2 := ⟨RX3, TX3, 3, "BeggarKings", rfl, in_X3, by decide, (rx_n1 145 rfl rfl)⟩
set_option maxRecDepth 100000 in
theorem f_X8_233 : rx_FN RX8 233 2 2 := ⟨RX3, TX3, 3, "BeggarKings", rfl, in_X3, by decide, (rx_n1 146 rfl rfl)⟩
set_option maxRecDepth 100000 in
theorem f_X2_49 : rx_F RX2 49 1 0 := ⟨RX2, TX2, 15, rfl, in_X2, by decide, (rx_g1 154 rfl rfl)⟩
set_option maxRecDepth 100000 in
theorem f_X2_53 : rx_F RX2 53 1 1 := ⟨RX2, TX2, 15, rfl, in_X2, by decide, (rx_g1 155 rfl rfl)⟩
set_option maxRecDepth 100000 in
theorem f_X8_120 : rx_FN RX8 120 1 1 := ⟨RX2, TX2, 15, "BeggarKings", rfl, in_X2, by decide, (rx_n1 156 rfl rfl)⟩
set_option maxRecDepth 100000 in
theorem f_X2_62 : rx_F RX2 62 1 2 := ⟨RX2, TX2, 15, rfl, in_X2, by decide, (rx_g1 157 rfl rfl)⟩
set_option maxRecDepth 100000 in
theorem f_X8_123 : rx_FN RX8 123 1 2 := ⟨RX2, TX2, 15, "BeggarKings", rfl, in_X2, by decide, (rx_n1 158 rfl rfl)⟩
set_option maxRecDepth 100000 in
theorem f_X2_63 : rx_F RX2 63 1 3 := ⟨RX2, TX2, 15, rfl, in_X2, by decide, (rx_g1 159 rfl rfl)⟩
set_option maxRecDepth 100000 in
theorem f_X8_126 : rx_FN RX8 126 1 3 := ⟨RX2, TX2, 15, "BeggarKings", rfl, in_X2, by decide, (rx_n1 160 rfl rfl)⟩
set_option maxRecDepth 100000 in
theorem f_X2_9 : rx_F RX2 9 1 4 := ⟨RX2, TX2, 15, rfl, in_X2, by decide, (rx_g1 161 rfl rfl)⟩
set_option maxRecDepth 100000 in
theorem f_X8_129 : rx_FN RX8 129 1 4 := ⟨RX2, TX2, 15, "BeggarKings", rfl, in_X2, by decide, (rx_n1 162 rfl rfl)⟩
set_option maxRecDepth 100000 in
theorem f_X2_15 : rx_F RX2 15 1 5 := ⟨RX2, TX2, 15, rfl, in_X2, by decide, (rx_g1 163 rfl rfl)⟩
set_option maxRecDepth 100000 in
theorem f_X8_155 : rx_FN RX8 155 1 5 := ⟨RX2, TX2, 15, "BeggarKings", rfl, in_X2, by decide, (rx_n1 164 rfl rfl)⟩
set_option maxRecDepth 100000 in
theorem f_X2_18 : rx_F RX2 18 1 6 := ⟨RX2, TX2, 15, rfl, in_X2, by decide, (rx_g1 165 rfl rfl)⟩
set_option maxRecDepth 100000 in
theorem f_X8_158 : rx_FN RX8 158 1 6 := ⟨RX2, TX2, 15, "BeggarKings", rfl, in_X2, by decide, (rx_n1 166 rfl rfl)⟩
set_option maxRecDepth 100000 in
theorem f_X2_21 : rx_F RX2 21 1 7 := ⟨RX2, TX2, 15, rfl, in_X2, by decide, (rx_g1 167 rfl rfl)⟩
set_option maxRecDepth 100000 in
theorem f_X2_24 : rx_F RX2 24 1 8 := ⟨RX2, TX2, 15, rfl, in_X2, by decide, (rx_g1 168 rfl rfl)⟩
set_option maxRecDepth 100000 in
theorem f_X8_164 : rx_FN RX8 164 1 8 := ⟨RX2, TX2, 15, "BeggarKings", rfl, in_X2, by decide, (rx_n1 169 rfl rfl)⟩
set_option maxRecDepth 100000 in
theorem f_X2_27 : rx_F RX2 27 1 9 := ⟨RX2, TX2, 15, rfl, in_X2, by decide, (rx_g1 170 rfl rfl)⟩
set_option maxRecDepth 100000 in
theorem f_X8_173 : rx_FN RX8 173 1 9 := ⟨RX2, TX2, 15, "BeggarKings", rfl, in_X2, by decide, (rx_n1 171 rfl rfl)⟩
set_option maxRecDepth 100000 in
theorem f_X2_30 : rx_F RX2 30 1 10 := ⟨RX2, TX2, 15, rfl, in_X2, by decide, (rx_g1 172 rfl rfl)⟩
set_option maxRecDepth 100000 in
theorem f_X8_214 : rx_FN RX8 214 1 10 := ⟨RX2, TX2, 15, "BeggarKings", rfl, in_X2, by decide, (rx_n1 173 rfl rfl)⟩
set_option maxRecDepth 100000 in
theorem f_X2_33 : rx_F RX2 33 1 11 := ⟨RX2, TX2, 15, rfl, in_X2, by decide, (rx_g1 174 rfl rfl)⟩
set_option maxRecDepth 100000 in
theorem f_X2_36 : rx_F RX2 36 1 12 := ⟨RX2, TX2, 15, rfl, in_X2, by decide, (rx_g1 175 rfl rfl)⟩
set_option maxRecDepth 100000 in
theorem f_X8_220 : rx_FN RX8 220 1 12 := ⟨RX2, TX2, 15, "BeggarKings", rfl, in_X2, by decide, (rx_n1 176 rfl rfl)⟩
set_option maxRecDepth 100000 in
theorem f_X2_42 : rx_F RX2 42 1 13 := ⟨RX2, TX2, 15, rfl, in_X2, by decide, (rx_g1 177 rfl rfl)⟩
set_option maxRecDepth 100000 in
theorem f_X2_46 : rx_F RX2 46 1 14 := ⟨RX2, TX2, 15, rfl, in_X2, by decide, (rx_g1 178 rfl rfl)⟩
set_option maxRecDepth 100000 in
theorem f_X1_11 : rx_F RX1 11 0 0 := ⟨RX1, TX1, 3, rfl, in_X1, by decide, (rx_g1 219 rfl rfl)⟩
set_option maxRecDepth 100000 in
theorem f_X1_24 : rx_F RX1 24 0 1 := ⟨RX1, TX1, 3, rfl, in_X1, by decide, (rx_g1 220 rfl rfl)⟩
set_option maxRecDepth 100000 in
theorem f_X1_20 : rx_F RX1 20 0 2 := ⟨RX1, TX1, 3, rfl, in_X1, by decide, (rx_g1 221 rfl rfl)⟩
set_option maxRecDepth 100000 in
theorem f_X4_11 : rx_F RX4 11 3 0 := ⟨RX4, TX4, 4, rfl, in_X4, by decide, (rx_g1 237 rfl rfl)⟩
set_option maxRecDepth 100000 in
theorem f_X4_17 : rx_F RX4 17 3 1 := ⟨RX4, TX4, 4, rfl, in_X4, by decide, (rx_g1 238 rfl rfl)⟩
set_option maxRecDepth 100000 in
theorem f_X4_21 : rx_F RX4 21 3 2 := ⟨RX4, TX4, 4, rfl, in_X4, by decide, (rx_g1 239 rfl rfl)⟩
set_option maxRecDepth 100000 in
theorem f_X8_10 : rx_F RX8 10 7 0 := ⟨RX8, TX8, 11, rfl, in_X8, by decide, (rx_g2 49 rfl rfl)⟩
set_option maxRecDepth 100000 in
theorem f_X8_19 : rx_F RX8 19 7 1 := ⟨RX8, TX8, 11, rfl, in_X8, by decide, (rx_g2 50 rfl rfl)⟩
set_option maxRecDepth 100000 in
theorem f_X8_23 : rx_F RX8 23 7 2 := ⟨RX8, TX8, 11, rfl, in_X8, by decide, (rx_g2 51 rfl rfl)⟩
set_option maxRecDepth 100000 in
theorem f_X8_31 : rx_F RX8 31 7 3 := ⟨RX8, TX8, 11, rfl, in_X8, by decide, (rx_g2 52 rfl rfl)⟩
set_option maxRecDepth 100000 in
theorem f_X8_35 : rx_F RX8 35 7 4 := ⟨RX8, TX8, 11, rfl, in_X8, by decide, (rx_g2 53 rfl rfl)⟩
set_option maxRecDepth 100000 in
theorem f_X8_38 : rx_F RX8 38 7 5 := ⟨RX8, TX8, 11, rfl, in_X8, by decide, (rx_g2 54 rfl rfl)⟩
set_option maxRecDepth 100000 in
theorem f_X8_44 : rx_F RX8 44 7 6 := ⟨RX8, TX8, 11, rfl, in_X8, by decide, (rx_g2 55 rfl rfl)⟩
set_option maxRecDepth 100000 in
theorem f_X8_51 : rx_F RX8 51 7 7 := ⟨RX8, TX8, 11, rfl, in_X8, by decide, (rx_g2 56 rfl rfl)⟩
set_option maxRecDepth 100000 in
theorem f_X8_55 : rx_F RX8 55 7 8 := ⟨RX8, TX8, 11, rfl, in_X8, by decide, (rx_g2 57 rfl rfl)⟩
set_option maxRecDepth 100000 in
theorem f_X8_107 : rx_F RX8 107 7 10 := ⟨RX8, TX8, 11, rfl, in_X8, by decide, (rx_g2 58 rfl rfl)⟩
set_option maxRecDepth 100000 in
theorem f_L_7 : rx_F RL 7 8 0 := ⟨RL, TL, 5, rfl, in_L, by decide, (rx_g2 112 rfl rfl)⟩
set_option maxRecDepth 100000 in
theorem f_L_13 : rx_F RL 13 8 1 := ⟨RL, TL, 5, rfl, in_L, by decide, (rx_g2 113 rfl rfl)⟩
set_option maxRecDepth 100000 in
theorem f_L_30 : rx_F RL 30 8 2 := ⟨RL, TL, 5, rfl, in_L, by decide, (rx_g2 114 rfl rfl)⟩
set_option maxRecDepth 100000 in
theorem f_L_45 : rx_F RL 45 8 3 := ⟨RL, TL, 5, rfl, in_L, by decide, (rx_g2 115 rfl rfl)⟩
set_option maxRecDepth 100000 in
theorem f_L_48 : rx_F RL 48 8 4 := ⟨RL, TL, 5, rfl, in_L, by decide, (rx_g2 116 rfl rfl)⟩
theorem t_X1_0 : rx_FT 0 0 (.array (.object "BeggarKings$Position")) true := ⟨RX1, TX1, 3, tyX1, rfl, tyX1_ok, nmX1, rfl, by decide +kernel, fun _ => rfl⟩
theorem t_X1_1 : rx_FT 0 1 .int false := ⟨RX1, TX1, 3, tyX1, rfl, tyX1_ok, nmX1, rfl, by decide +kernel, fun h => by cases h⟩
theorem t_X1_2 : rx_FT 0 2 .int false := ⟨RX1, TX1, 3, tyX1, rfl, tyX1_ok, nmX1, rfl, by decide +kernel, fun h => by cases h⟩
theorem t_X2_0 : rx_FT 1 0 (.object "BeggarKings$Setting") true := ⟨RX2, TX2, 15, tyX2, rfl, tyX2_ok, nmX2, rfl, by decide +kernel, fun _ => rfl⟩
theorem t_X2_1 : rx_FT 1 1 .int false := ⟨RX2, TX2, 15, tyX2, rfl, tyX2_ok, nmX2, rfl, by decide +kernel, fun h => by cases h⟩
theorem t_X2_2 : rx_FT 1 2 .int false := ⟨RX2, TX2, 15, tyX2, rfl, tyX2_ok, nmX2, rfl, by decide +kernel, fun h => by cases h⟩
theorem t_X2_3 : rx_FT 1 3 .int false := ⟨RX2, TX2, 15, tyX2, rfl, tyX2_ok, nmX2, rfl, by decide +kernel, fun h => by cases h⟩
theorem t_X2_4 : rx_FT 1 4 (.array .int) true := ⟨RX2, TX2, 15, tyX2, rfl, tyX2_ok, nmX2, rfl, by decide +kernel, fun _ => rfl⟩
theorem t_X2_5 : rx_FT 1 5 (.array .int) true := ⟨RX2, TX2, 15, tyX2, rfl, tyX2_ok, nmX2, rfl, by decide +kernel, fun _ => rfl⟩
theorem t_X2_6 : rx_FT 1 6 (.array .int) true := ⟨RX2, TX2, 15, tyX2, rfl, tyX2_ok, nmX2, rfl, by decide +kernel, fun _ => rfl⟩
theorem t_X2_7 : rx_FT 1 7 (.array .int) true := ⟨RX2, TX2, 15, tyX2, rfl, tyX2_ok, nmX2, rfl, by decide +kernel, fun _ => rfl⟩
theorem t_X2_8 : rx_FT 1 8 (.array .int) true := ⟨RX2, TX2, 15, tyX2, rfl, tyX2_ok, nmX2, rfl, by decide +kernel, fun _ => rfl⟩
theorem t_X2_9 : rx_FT 1 9 (.array .int) true := ⟨RX2, TX2, 15, tyX2, rfl, tyX2_ok, nmX2, rfl, by decide +kernel, fun _ => rfl⟩
theorem t_X2_10 : rx_FT 1 10 (.array .int) true := ⟨RX2, TX2, 15, tyX2, rfl, tyX2_ok, nmX2, rfl, by decide +kernel, fun _ => rfl⟩
theorem t_X2_11 : rx_FT 1 11 (.array .int) true := ⟨RX2, TX2, 15, tyX2, rfl, tyX2_ok, nmX2, rfl, by decide +kernel, fun _ => rfl⟩
theorem t_X2_12 : rx_FT 1 12 (.array .int) true := ⟨RX2, TX2, 15, tyX2, rfl, tyX2_ok, nmX2, rfl, by decide +kernel, fun _ => rfl⟩
theorem t_X2_13 : rx_FT 1 13 (.object "BeggarKings$Queue") true := ⟨RX2, TX2, 15, tyX2, rfl, tyX2_ok, nmX2, rfl, by decide +kernel, fun _ => rfl⟩
theorem t_X2_14 : rx_FT 1 14 (.object "BeggarKings$Queue") true := ⟨RX2, TX2, 15, tyX2, rfl, tyX2_ok, nmX2, rfl, by decide +kernel, fun _ => rfl⟩
theorem t_X3_0 : rx_FT 2 0 (.array .int) true := ⟨RX3, TX3, 3, tyX3, rfl, tyX3_ok, nmX3, rfl, by decide +kernel, fun _ => rfl⟩
theorem t_X3_1 : rx_FT 2 1 (.array .int) true := ⟨RX3, TX3, 3, tyX3, rfl, tyX3_ok, nmX3, rfl, by decide +kernel, fun _ => rfl⟩
theorem t_X3_2 : rx_FT 2 2 .int false := ⟨RX3, TX3, 3, tyX3, rfl, tyX3_ok, nmX3, rfl, by decide +kernel, fun h => by cases h⟩
theorem t_X4_0 : rx_FT 3 0 (.array (.object "BeggarKings$Verb")) true := ⟨RX4, TX4, 4, tyX4, rfl, tyX4_ok, nmX4, rfl, by decide +kernel, fun _ => rfl⟩
theorem t_X4_1 : rx_FT 3 1 (.array .int) true := ⟨RX4, TX4, 4, tyX4, rfl, tyX4_ok, nmX4, rfl, by decide +kernel, fun _ => rfl⟩
theorem t_X4_2 : rx_FT 3 2 (.array .int) true := ⟨RX4, TX4, 4, tyX4, rfl, tyX4_ok, nmX4, rfl, by decide +kernel, fun _ => rfl⟩
theorem t_X4_3 : rx_FT 3 3 .int false := ⟨RX4, TX4, 4, tyX4, rfl, tyX4_ok, nmX4, rfl, by decide +kernel, fun h => by cases h⟩
theorem t_X5_0 : rx_FT 4 0 .int false := ⟨RX5, TX5, 14, tyX5, rfl, tyX5_ok, nmX5, rfl, by decide +kernel, fun h => by cases h⟩
theorem t_X5_1 : rx_FT 4 1 .int false := ⟨RX5, TX5, 14, tyX5, rfl, tyX5_ok, nmX5, rfl, by decide +kernel, fun h => by cases h⟩
theorem t_X5_2 : rx_FT 4 2 .int false := ⟨RX5, TX5, 14, tyX5, rfl, tyX5_ok, nmX5, rfl, by decide +kernel, fun h => by cases h⟩
theorem t_X5_3 : rx_FT 4 3 .int false := ⟨RX5, TX5, 14, tyX5, rfl, tyX5_ok, nmX5, rfl, by decide +kernel, fun h => by cases h⟩
theorem t_X5_4 : rx_FT 4 4 .int false := ⟨RX5, TX5, 14, tyX5, rfl, tyX5_ok, nmX5, rfl, by decide +kernel, fun h => by cases h⟩
theorem t_X5_5 : rx_FT 4 5 .int false := ⟨RX5, TX5, 14, tyX5, rfl, tyX5_ok, nmX5, rfl, by decide +kernel, fun h => by cases h⟩
theorem t_X5_6 : rx_FT 4 6 (.array .int) true := ⟨RX5, TX5, 14, tyX5, rfl, tyX5_ok, nmX5, rfl, by decide +kernel, fun _ => rfl⟩
theorem t_X5_7 : rx_FT 4 7 (.array .int) true := ⟨RX5, TX5, 14, tyX5, rfl, tyX5_ok, nmX5, rfl, by decide +kernel, fun _ => rfl⟩
theorem t_X5_8 : rx_FT 4 8 (.array .int) true := ⟨RX5, TX5, 14, tyX5, rfl, tyX5_ok, nmX5, rfl, by decide +kernel, fun _ => rfl⟩
theorem t_X5_9 : rx_FT 4 9 (.array .int) true := ⟨RX5, TX5, 14, tyX5, rfl, tyX5_ok, nmX5, rfl, by decide +kernel, fun _ => rfl⟩
theorem t_X5_10 : rx_FT 4 10 (.array .int) true := ⟨RX5, TX5, 14, tyX5, rfl, tyX5_ok, nmX5, rfl, by decide +kernel, fun _ => rfl⟩
theorem t_X5_11 : rx_FT 4 11 (.array .int) true := ⟨RX5, TX5, 14, tyX5, rfl, tyX5_ok, nmX5, rfl, by decide +kernel, fun _ => rfl⟩
theorem t_X5_12 : rx_FT 4 12 (.array .int) true := ⟨RX5, TX5, 14, tyX5, rfl, tyX5_ok, nmX5, rfl, by decide +kernel, fun _ => rfl⟩
theorem t_X5_13 : rx_FT 4 13 (.array .int) true := ⟨RX5, TX5, 14, tyX5, rfl, tyX5_ok, nmX5, rfl, by decide +kernel, fun _ => rfl⟩
theorem t_X6_0 : rx_FT 5 0 (.array .int) true := ⟨RX6, TX6, 9, tyX6, rfl, tyX6_ok, nmX6, rfl, by decide +kernel, fun _ => rfl⟩
theorem t_X6_1 : rx_FT 5 1 .int false := ⟨RX6, TX6, 9, tyX6, rfl, tyX6_ok, nmX6, rfl, by decide +kernel, fun h => by cases h⟩
theorem t_X6_2 : rx_FT 5 2 .int false := ⟨RX6, TX6, 9, tyX6, rfl, tyX6_ok, nmX6, rfl, by decide +kernel, fun h => by cases h⟩
theorem t_X6_3 : rx_FT 5 3 .int false := ⟨RX6, TX6, 9, tyX6, rfl, tyX6_ok, nmX6, rfl, by decide +kernel, fun h => by cases h⟩
theorem t_X6_4 : rx_FT 5 4 .int false := ⟨RX6, TX6, 9, tyX6, rfl, tyX6_ok, nmX6, rfl, by decide +kernel, fun h => by cases h⟩
theorem t_X6_5 : rx_FT 5 5 .int false := ⟨RX6, TX6, 9, tyX6, rfl, tyX6_ok, nmX6, rfl, by decide +kernel, fun h => by cases h⟩
theorem t_X6_6 : rx_FT 5 6 .int false := ⟨RX6, TX6, 9, tyX6, rfl, tyX6_ok, nmX6, rfl, by decide +kernel, fun h => by cases h⟩
theorem t_X6_7 : rx_FT 5 7 .int false := ⟨RX6, TX6, 9, tyX6, rfl, tyX6_ok, nmX6, rfl, by decide +kernel, fun h => by cases h⟩
theorem t_X6_8 : rx_FT 5 8 .int false := ⟨RX6, TX6, 9, tyX6, rfl, tyX6_ok, nmX6, rfl, by decide +kernel, fun h => by cases h⟩
theorem t_X8_0 : rx_FT 7 0 (.object "BeggarKings$Text") true := ⟨RX8, TX8, 11, tyX8, rfl, tyX8_ok, nmX8, rfl, by decide +kernel, fun _ => rfl⟩
theorem t_X8_1 : rx_FT 7 1 (.object "BeggarKings$Setting") true := ⟨RX8, TX8, 11, tyX8, rfl, tyX8_ok, nmX8, rfl, by decide +kernel, fun _ => rfl⟩
theorem t_X8_2 : rx_FT 7 2 (.object "BeggarKings$Setting") true := ⟨RX8, TX8, 11, tyX8, rfl, tyX8_ok, nmX8, rfl, by decide +kernel, fun _ => rfl⟩
theorem t_X8_3 : rx_FT 7 3 (.object "BeggarKings$Position") true := ⟨RX8, TX8, 11, tyX8, rfl, tyX8_ok, nmX8, rfl, by decide +kernel, fun _ => rfl⟩
theorem t_X8_4 : rx_FT 7 4 (.object "BeggarKings$Position") true := ⟨RX8, TX8, 11, tyX8, rfl, tyX8_ok, nmX8, rfl, by decide +kernel, fun _ => rfl⟩
theorem t_X8_5 : rx_FT 7 5 (.object "BeggarKings$Position") true := ⟨RX8, TX8, 11, tyX8, rfl, tyX8_ok, nmX8, rfl, by decide +kernel, fun _ => rfl⟩
theorem t_X8_6 : rx_FT 7 6 (.object "BeggarKings$History") true := ⟨RX8, TX8, 11, tyX8, rfl, tyX8_ok, nmX8, rfl, by decide +kernel, fun _ => rfl⟩
theorem t_X8_7 : rx_FT 7 7 (.object "BeggarKings$Script") true := ⟨RX8, TX8, 11, tyX8, rfl, tyX8_ok, nmX8, rfl, by decide +kernel, fun _ => rfl⟩
theorem t_X8_8 : rx_FT 7 8 (.array .int) true := ⟨RX8, TX8, 11, tyX8, rfl, tyX8_ok, nmX8, rfl, by decide +kernel, fun _ => rfl⟩
theorem t_X8_9 : rx_FT 7 9 .int false := ⟨RX8, TX8, 11, tyX8, rfl, tyX8_ok, nmX8, rfl, by decide +kernel, fun h => by cases h⟩
theorem t_X8_10 : rx_FT 7 10 .boolean false := ⟨RX8, TX8, 11, tyX8, rfl, tyX8_ok, nmX8, rfl, by decide +kernel, fun h => by cases h⟩
theorem t_L_0 : rx_FT 8 0 (.array .int) true := ⟨RL, TL, 5, tyL, rfl, tyL_ok, nmL, rfl, by decide +kernel, fun _ => rfl⟩
theorem t_L_1 : rx_FT 8 1 (.array .int) true := ⟨RL, TL, 5, tyL, rfl, tyL_ok, nmL, rfl, by decide +kernel, fun _ => rfl⟩
theorem t_L_2 : rx_FT 8 2 .int false := ⟨RL, TL, 5, tyL, rfl, tyL_ok, nmL, rfl, by decide +kernel, fun h => by cases h⟩
theorem t_L_3 : rx_FT 8 3 .int false := ⟨RL, TL, 5, tyL, rfl, tyL_ok, nmL, rfl, by decide +kernel, fun h => by cases h⟩
theorem t_L_4 : rx_FT 8 4 .int false := ⟨RL, TL, 5, tyL, rfl, tyL_ok, nmL, rfl, by decide +kernel, fun h => by cases h⟩
set_option maxRecDepth 100000 in
theorem Y_X1_init : rx_Y yX1_init cX1_init 3 none 1 := ⟨(rx_g1 214 rfl rfl), (rx_g1 6 rfl rfl), (by decide +kernel), (by decide +kernel), (by decide +kernel)⟩
set_option maxRecDepth 100000 in
theorem I_X1_init : Cond.instanceMethod yX1_init ∈ rx_good := (rx_g1 213 rfl rfl)
set_option maxRecDepth 100000 in
theorem Y_X1_clear : rx_Y yX1_clear cX1_clear 1 none 0 := ⟨(rx_g3 149 rfl rfl), (rx_g1 6 rfl rfl), (by decide +kernel), (by decide +kernel), (by decide +kernel)⟩
set_option maxRecDepth 100000 in
theorem V_X1_clear : rx_YV yX1_clear := ⟨(rx_g3 148 rfl rfl), (rx_g0 30 rfl rfl)⟩
set_option maxRecDepth 100000 in
theorem Y_X1_push : rx_Y yX1_push cX1_push 3 none 1 := ⟨(rx_g4 38 rfl rfl), (rx_g1 6 rfl rfl), (by decide +kernel), (by decide +kernel), (by decide +kernel)⟩
set_option maxRecDepth 100000 in
theorem V_X1_push : rx_YV yX1_push := ⟨(rx_g4 37 rfl rfl), (rx_g0 43 rfl rfl)⟩
set_option maxRecDepth 100000 in
theorem Y_X2_init : rx_Y yX2_init cX2_init 2 none 1 := ⟨(rx_g1 134 rfl rfl), (rx_g1 4 rfl rfl), (by decide +kernel), (by decide +kernel), (by decide +kernel)⟩
set_option maxRecDepth 100000 in
theorem I_X2_init : Cond.instanceMethod yX2_init ∈ rx_good := (rx_g1 133 rfl rfl)
set_option maxRecDepth 100000 in
theorem Y_X2_begin : rx_Y yX2_begin cX2_begin 2 none 0 := ⟨(rx_g2 27 rfl rfl), (rx_g1 4 rfl rfl), (by decide +kernel), (by decide +kernel), (by decide +kernel)⟩
set_option maxRecDepth 100000 in
theorem V_X2_begin : rx_YV yX2_begin := ⟨(rx_g2 26 rfl rfl), (rx_g0 3 rfl rfl)⟩
set_option maxRecDepth 100000 in
theorem Y_X2_copyFrom : rx_Y yX2_copyFrom cX2_copyFrom 2 none 1 := ⟨(rx_g4 42 rfl rfl), (rx_g1 4 rfl rfl), (by decide +kernel), (by decide +kernel), (by decide +kernel)⟩
set_option maxRecDepth 100000 in
theorem V_X2_copyFrom : rx_YV yX2_copyFrom := ⟨(rx_g4 41 rfl rfl), (rx_g0 44 rfl rfl)⟩
set_option maxRecDepth 100000 in
theorem Y_X2_peopleOn : rx_Y yX2_peopleOn cX2_peopleOn 4 (some .int) 1 := ⟨(rx_g5 38 rfl rfl), (rx_g1 4 rfl rfl), (by decide +kernel), (by decide +kernel), (by decide +kernel)⟩
set_option maxRecDepth 100000 in
theorem V_X2_peopleOn : rx_YV yX2_peopleOn := ⟨(rx_g5 37 rfl rfl), (rx_g0 74 rfl rfl)⟩
set_option maxRecDepth 100000 in
theorem Y_X2_wearerOf : rx_Y yX2_wearerOf cX2_wearerOf 3 (some .int) 1 := ⟨(rx_g5 13 rfl rfl), (rx_g1 4 rfl rfl), (by decide +kernel), (by decide +kernel), (by decide +kernel)⟩
set_option maxRecDepth 100000 in
theorem V_X2_wearerOf : rx_YV yX2_wearerOf := ⟨(rx_g5 12 rfl rfl), (rx_g0 72 rfl rfl)⟩
set_option maxRecDepth 100000 in
theorem Y_X2_coinsInAll : rx_Y yX2_coinsInAll cX2_coinsInAll 3 (some .int) 0 := ⟨(rx_g2 98 rfl rfl), (rx_g1 4 rfl rfl), (by decide +kernel), (by decide +kernel), (by decide +kernel)⟩
set_option maxRecDepth 100000 in
theorem V_X2_coinsInAll : rx_YV yX2_coinsInAll := ⟨(rx_g2 97 rfl rfl), (rx_g0 7 rfl rfl)⟩
set_option maxRecDepth 100000 in
theorem Y_X2_royalCoinBank : rx_Y yX2_royalCoinBank cX2_royalCoinBank 3 (some .int) 1 := ⟨(rx_g4 108 rfl rfl), (rx_g1 4 rfl rfl), (by decide +kernel), (by decide +kernel), (by decide +kernel)⟩
set_option maxRecDepth 100000 in
theorem V_X2_royalCoinBank : rx_YV yX2_royalCoinBank := ⟨(rx_g4 107 rfl rfl), (rx_g0 51 rfl rfl)⟩
set_option maxRecDepth 100000 in
theorem Y_X2_royalCoinsOf : rx_Y yX2_royalCoinsOf cX2_royalCoinsOf 4 (some .int) 1 := ⟨(rx_g4 100 rfl rfl), (rx_g1 4 rfl rfl), (by decide +kernel), (by decide +kernel), (by decide +kernel)⟩
set_option maxRecDepth 100000 in
theorem V_X2_royalCoinsOf : rx_YV yX2_royalCoinsOf := ⟨(rx_g4 99 rfl rfl), (rx_g0 50 rfl rfl)⟩
set_option maxRecDepth 100000 in
theorem Y_X2_countedInAll : rx_Y yX2_countedInAll cX2_countedInAll 3 (some .int) 0 := ⟨(rx_g2 89 rfl rfl), (rx_g1 4 rfl rfl), (by decide +kernel), (by decide +kernel), (by decide +kernel)⟩
set_option maxRecDepth 100000 in
theorem V_X2_countedInAll : rx_YV yX2_countedInAll := ⟨(rx_g2 88 rfl rfl), (rx_g0 6 rfl rfl)⟩
set_option maxRecDepth 100000 in
theorem Y_X2_keeperAngleIn : rx_Y yX2_keeperAngleIn cX2_keeperAngleIn 3 (some .int) 2 := ⟨(rx_g4 206 rfl rfl), (rx_g1 4 rfl rfl), (by decide +kernel), (by decide +kernel), (by decide +kernel)⟩
set_option maxRecDepth 100000 in
theorem V_X2_keeperAngleIn : rx_YV yX2_keeperAngleIn := ⟨(rx_g4 205 rfl rfl), (rx_g0 65 rfl rfl)⟩
set_option maxRecDepth 100000 in
theorem Y_X2_angleOf : rx_Y yX2_angleOf cX2_angleOf 3 (some .int) 2 := ⟨(rx_g4 209 rfl rfl), (rx_g1 4 rfl rfl), (by decide +kernel), (by decide +kernel), (by decide +kernel)⟩
set_option maxRecDepth 100000 in
theorem S_X2_angleOf : Cond.static yX2_angleOf ∈ rx_good := (rx_g4 208 rfl rfl)
set_option maxRecDepth 100000 in
theorem Y_X2_queueOn : rx_Y yX2_queueOn cX2_queueOn 2 (some (.object "BeggarKings$Queue")) 1 := ⟨(rx_g4 8 rfl rfl), (rx_g1 4 rfl rfl), (by decide +kernel), (by decide +kernel), (by decide +kernel)⟩
set_option maxRecDepth 100000 in
theorem V_X2_queueOn : rx_YV yX2_queueOn := ⟨(rx_g4 7 rfl rfl), (rx_g0 40 rfl rfl)⟩
set_option maxRecDepth 100000 in
theorem Y_X2_offerOf : rx_Y yX2_offerOf cX2_offerOf 3 (some .int) 1 := ⟨(rx_g4 4 rfl rfl), (rx_g1 4 rfl rfl), (by decide +kernel), (by decide +kernel), (by decide +kernel)⟩
set_option maxRecDepth 100000 in
theorem V_X2_offerOf : rx_YV yX2_offerOf := ⟨(rx_g4 3 rfl rfl), (rx_g0 39 rfl rfl)⟩
set_option maxRecDepth 100000 in
theorem Y_X2_departureBank : rx_Y yX2_departureBank cX2_departureBank 1 (some .int) 0 := ⟨(rx_g4 190 rfl rfl), (rx_g1 4 rfl rfl), (by decide +kernel), (by decide +kernel), (by decide +kernel)⟩
set_option maxRecDepth 100000 in
theorem V_X2_departureBank : rx_YV yX2_departureBank := ⟨(rx_g4 189 rfl rfl), (rx_g0 61 rfl rfl)⟩
set_option maxRecDepth 100000 in
theorem Y_X2_passSeveral : rx_Y yX2_passSeveral cX2_passSeveral 4 (some .int) 1 := ⟨(rx_g4 182 rfl rfl), (rx_g1 4 rfl rfl), (by decide +kernel), (by decide +kernel), (by decide +kernel)⟩
set_option maxRecDepth 100000 in
theorem V_X2_passSeveral : rx_YV yX2_passSeveral := ⟨(rx_g4 181 rfl rfl), (rx_g0 59 rfl rfl)⟩
set_option maxRecDepth 100000 in
theorem Y_X2_passTurn : rx_Y yX2_passTurn cX2_passTurn 7 (some .int) 0 := ⟨(rx_g4 186 rfl rfl), (rx_g1 4 rfl rfl), (by decide +kernel), (by decide +kernel), (by decide +kernel)⟩
set_option maxRecDepth 100000 in
theorem V_X2_passTurn : rx_YV yX2_passTurn := ⟨(rx_g4 185 rfl rfl), (rx_g0 60 rfl rfl)⟩
set_option maxRecDepth 100000 in
theorem Y_X2_letFirstTry : rx_Y yX2_letFirstTry cX2_letFirstTry 5 (some .int) 1 := ⟨(rx_g4 198 rfl rfl), (rx_g1 4 rfl rfl), (by decide +kernel), (by decide +kernel), (by decide +kernel)⟩
set_option maxRecDepth 100000 in
theorem V_X2_letFirstTry : rx_YV yX2_letFirstTry := ⟨(rx_g4 197 rfl rfl), (rx_g0 63 rfl rfl)⟩
set_option maxRecDepth 100000 in
theorem Y_X2_countRoyalCoinsOf : rx_Y yX2_countRoyalCoinsOf cX2_countRoyalCoinsOf 3 none 1 := ⟨(rx_g4 217 rfl rfl), (rx_g1 4 rfl rfl), (by decide +kernel), (by decide +kernel), (by decide +kernel)⟩
set_option maxRecDepth 100000 in
theorem V_X2_countRoyalCoinsOf : rx_YV yX2_countRoyalCoinsOf := ⟨(rx_g4 216 rfl rfl), (rx_g0 67 rfl rfl)⟩
set_option maxRecDepth 100000 in
theorem Y_X2_learn : rx_Y yX2_learn cX2_learn 3 none 2 := ⟨(rx_g4 221 rfl rfl), (rx_g1 4 rfl rfl), (by decide +kernel), (by decide +kernel), (by decide +kernel)⟩
set_option maxRecDepth 100000 in
theorem V_X2_learn : rx_YV yX2_learn := ⟨(rx_g4 220 rfl rfl), (rx_g0 68 rfl rfl)⟩
set_option maxRecDepth 100000 in
theorem Y_X2_faultOf : rx_Y yX2_faultOf cX2_faultOf 4 (some .int) 3 := ⟨(rx_g3 218 rfl rfl), (rx_g1 4 rfl rfl), (by decide +kernel), (by decide +kernel), (by decide +kernel)⟩
set_option maxRecDepth 100000 in
theorem V_X2_faultOf : rx_YV yX2_faultOf := ⟨(rx_g3 217 rfl rfl), (rx_g0 35 rfl rfl)⟩
set_option maxRecDepth 100000 in
theorem Y_X2_isSound : rx_Y yX2_isSound cX2_isSound 4 (some .boolean) 3 := ⟨(rx_g3 223 rfl rfl), (rx_g1 4 rfl rfl), (by decide +kernel), (by decide +kernel), (by decide +kernel)⟩
set_option maxRecDepth 100000 in
theorem V_X2_isSound : rx_YV yX2_isSound := ⟨(rx_g3 222 rfl rfl), (rx_g0 36 rfl rfl)⟩
set_option maxRecDepth 100000 in
theorem Y_X2_isPossible : rx_Y yX2_isPossible cX2_isPossible 4 (some .boolean) 3 := ⟨(rx_g4 0 rfl rfl), (rx_g1 4 rfl rfl), (by decide +kernel), (by decide +kernel), (by decide +kernel)⟩
set_option maxRecDepth 100000 in
theorem V_X2_isPossible : rx_YV yX2_isPossible := ⟨(rx_g3 239 rfl rfl), (rx_g0 38 rfl rfl)⟩
set_option maxRecDepth 100000 in
theorem Y_X2_drop : rx_Y yX2_drop cX2_drop 4 (some .int) 2 := ⟨(rx_g4 52 rfl rfl), (rx_g1 4 rfl rfl), (by decide +kernel), (by decide +kernel), (by decide +kernel)⟩
set_option maxRecDepth 100000 in
theorem V_X2_drop : rx_YV yX2_drop := ⟨(rx_g4 51 rfl rfl), (rx_g0 46 rfl rfl)⟩
set_option maxRecDepth 100000 in
theorem Y_X2_pick : rx_Y yX2_pick cX2_pick 3 (some .int) 2 := ⟨(rx_g4 77 rfl rfl), (rx_g1 4 rfl rfl), (by decide +kernel), (by decide +kernel), (by decide +kernel)⟩
set_option maxRecDepth 100000 in
theorem V_X2_pick : rx_YV yX2_pick := ⟨(rx_g4 76 rfl rfl), (rx_g0 47 rfl rfl)⟩
set_option maxRecDepth 100000 in
theorem Y_X2_lay : rx_Y yX2_lay cX2_lay 3 (some .int) 2 := ⟨(rx_g4 96 rfl rfl), (rx_g1 4 rfl rfl), (by decide +kernel), (by decide +kernel), (by decide +kernel)⟩
set_option maxRecDepth 100000 in
theorem V_X2_lay : rx_YV yX2_lay := ⟨(rx_g4 95 rfl rfl), (rx_g0 49 rfl rfl)⟩
set_option maxRecDepth 100000 in
theorem Y_X2_lift : rx_Y yX2_lift cX2_lift 3 (some .int) 2 := ⟨(rx_g4 118 rfl rfl), (rx_g1 4 rfl rfl), (by decide +kernel), (by decide +kernel), (by decide +kernel)⟩
set_option maxRecDepth 100000 in
theorem V_X2_lift : rx_YV yX2_lift := ⟨(rx_g4 117 rfl rfl), (rx_g0 52 rfl rfl)⟩
set_option maxRecDepth 100000 in
theorem Y_X2_swap : rx_Y yX2_swap cX2_swap 4 (some .int) 2 := ⟨(rx_g4 128 rfl rfl), (rx_g1 4 rfl rfl), (by decide +kernel), (by decide +kernel), (by decide +kernel)⟩
set_option maxRecDepth 100000 in
theorem V_X2_swap : rx_YV yX2_swap := ⟨(rx_g4 127 rfl rfl), (rx_g0 53 rfl rfl)⟩
set_option maxRecDepth 100000 in
theorem Y_X2_join : rx_Y yX2_join cX2_join 3 (some .int) 2 := ⟨(rx_g4 143 rfl rfl), (rx_g1 4 rfl rfl), (by decide +kernel), (by decide +kernel), (by decide +kernel)⟩
set_option maxRecDepth 100000 in
theorem V_X2_join : rx_YV yX2_join := ⟨(rx_g4 142 rfl rfl), (rx_g0 54 rfl rfl)⟩
set_option maxRecDepth 100000 in
theorem Y_X2_quit : rx_Y yX2_quit cX2_quit 5 (some .int) 1 := ⟨(rx_g4 158 rfl rfl), (rx_g1 4 rfl rfl), (by decide +kernel), (by decide +kernel), (by decide +kernel)⟩
set_option maxRecDepth 100000 in
theorem V_X2_quit : rx_YV yX2_quit := ⟨(rx_g4 157 rfl rfl), (rx_g0 56 rfl rfl)⟩
set_option maxRecDepth 100000 in
theorem Y_X2_changePride : rx_Y yX2_changePride cX2_changePride 4 (some .int) 2 := ⟨(rx_g4 172 rfl rfl), (rx_g1 4 rfl rfl), (by decide +kernel), (by decide +kernel), (by decide +kernel)⟩
set_option maxRecDepth 100000 in
theorem V_X2_changePride : rx_YV yX2_changePride := ⟨(rx_g4 171 rfl rfl), (rx_g0 58 rfl rfl)⟩
set_option maxRecDepth 100000 in
theorem Y_X3_init : rx_Y yX3_init cX3_init 1 none 0 := ⟨(rx_g1 140 rfl rfl), (rx_g1 5 rfl rfl), (by decide +kernel), (by decide +kernel), (by decide +kernel)⟩
set_option maxRecDepth 100000 in
theorem I_X3_init : Cond.instanceMethod yX3_init ∈ rx_good := (rx_g1 139 rfl rfl)
set_option maxRecDepth 100000 in
theorem Y_X3_copyFrom : rx_Y yX3_copyFrom cX3_copyFrom 2 none 1 := ⟨(rx_g4 46 rfl rfl), (rx_g1 5 rfl rfl), (by decide +kernel), (by decide +kernel), (by decide +kernel)⟩
set_option maxRecDepth 100000 in
theorem V_X3_copyFrom : rx_YV yX3_copyFrom := ⟨(rx_g4 45 rfl rfl), (rx_g0 45 rfl rfl)⟩
set_option maxRecDepth 100000 in
theorem Y_X3_personAt : rx_Y yX3_personAt cX3_personAt 2 (some .int) 1 := ⟨(rx_g4 202 rfl rfl), (rx_g1 5 rfl rfl), (by decide +kernel), (by decide +kernel), (by decide +kernel)⟩
set_option maxRecDepth 100000 in
theorem V_X3_personAt : rx_YV yX3_personAt := ⟨(rx_g4 201 rfl rfl), (rx_g0 64 rfl rfl)⟩
set_option maxRecDepth 100000 in
theorem Y_X3_offerAt : rx_Y yX3_offerAt cX3_offerAt 2 (some .int) 1 := ⟨(rx_g4 17 rfl rfl), (rx_g1 5 rfl rfl), (by decide +kernel), (by decide +kernel), (by decide +kernel)⟩
set_option maxRecDepth 100000 in
theorem V_X3_offerAt : rx_YV yX3_offerAt := ⟨(rx_g4 16 rfl rfl), (rx_g0 42 rfl rfl)⟩
set_option maxRecDepth 100000 in
theorem Y_X3_placeOf : rx_Y yX3_placeOf cX3_placeOf 3 (some .int) 1 := ⟨(rx_g4 12 rfl rfl), (rx_g1 5 rfl rfl), (by decide +kernel), (by decide +kernel), (by decide +kernel)⟩
set_option maxRecDepth 100000 in
theorem V_X3_placeOf : rx_YV yX3_placeOf := ⟨(rx_g4 11 rfl rfl), (rx_g0 41 rfl rfl)⟩
set_option maxRecDepth 100000 in
theorem Y_X3_insert : rx_Y yX3_insert cX3_insert 4 (some .int) 2 := ⟨(rx_g4 147 rfl rfl), (rx_g1 5 rfl rfl), (by decide +kernel), (by decide +kernel), (by decide +kernel)⟩
set_option maxRecDepth 100000 in
theorem V_X3_insert : rx_YV yX3_insert := ⟨(rx_g4 146 rfl rfl), (rx_g0 55 rfl rfl)⟩
set_option maxRecDepth 100000 in
theorem Y_X3_removeAt : rx_Y yX3_removeAt cX3_removeAt 3 none 1 := ⟨(rx_g4 162 rfl rfl), (rx_g1 5 rfl rfl), (by decide +kernel), (by decide +kernel), (by decide +kernel)⟩
set_option maxRecDepth 100000 in
theorem V_X3_removeAt : rx_YV yX3_removeAt := ⟨(rx_g4 161 rfl rfl), (rx_g0 57 rfl rfl)⟩
set_option maxRecDepth 100000 in
theorem Y_X4_init : rx_Y yX4_init cX4_init 1 none 0 := ⟨(rx_g1 233 rfl rfl), (rx_g1 7 rfl rfl), (by decide +kernel), (by decide +kernel), (by decide +kernel)⟩
set_option maxRecDepth 100000 in
theorem I_X4_init : Cond.instanceMethod yX4_init ∈ rx_good := (rx_g1 232 rfl rfl)
set_option maxRecDepth 100000 in
theorem Y_X5_init : rx_Y yX5_init cX5_init 1 none 0 := ⟨(rx_g1 73 rfl rfl), (rx_g1 3 rfl rfl), (by decide +kernel), (by decide +kernel), (by decide +kernel)⟩
set_option maxRecDepth 100000 in
theorem I_X5_init : Cond.instanceMethod yX5_init ∈ rx_good := (rx_g1 72 rfl rfl)
set_option maxRecDepth 100000 in
theorem Y_X5_begin : rx_Y yX5_begin cX5_begin 5 none 4 := ⟨(rx_g2 12 rfl rfl), (rx_g1 3 rfl rfl), (by decide +kernel), (by decide +kernel), (by decide +kernel)⟩
set_option maxRecDepth 100000 in
theorem V_X5_begin : rx_YV yX5_begin := ⟨(rx_g2 11 rfl rfl), (rx_g0 0 rfl rfl)⟩
set_option maxRecDepth 100000 in
theorem Y_X5_addPerson : rx_Y yX5_addPerson cX5_addPerson 6 none 5 := ⟨(rx_g2 16 rfl rfl), (rx_g1 3 rfl rfl), (by decide +kernel), (by decide +kernel), (by decide +kernel)⟩
set_option maxRecDepth 100000 in
theorem V_X5_addPerson : rx_YV yX5_addPerson := ⟨(rx_g2 15 rfl rfl), (rx_g0 1 rfl rfl)⟩
set_option maxRecDepth 100000 in
theorem Y_X5_addBridge : rx_Y yX5_addBridge cX5_addBridge 4 none 3 := ⟨(rx_g2 23 rfl rfl), (rx_g1 3 rfl rfl), (by decide +kernel), (by decide +kernel), (by decide +kernel)⟩
set_option maxRecDepth 100000 in
theorem V_X5_addBridge : rx_YV yX5_addBridge := ⟨(rx_g2 22 rfl rfl), (rx_g0 2 rfl rfl)⟩
set_option maxRecDepth 100000 in
theorem Y_X5_copyFrom : rx_Y yX5_copyFrom cX5_copyFrom 2 none 1 := ⟨(rx_g3 144 rfl rfl), (rx_g1 3 rfl rfl), (by decide +kernel), (by decide +kernel), (by decide +kernel)⟩
set_option maxRecDepth 100000 in
theorem V_X5_copyFrom : rx_YV yX5_copyFrom := ⟨(rx_g3 143 rfl rfl), (rx_g0 29 rfl rfl)⟩
set_option maxRecDepth 100000 in
theorem Y_X5_hasPerson : rx_Y yX5_hasPerson cX5_hasPerson 2 (some .boolean) 1 := ⟨(rx_g2 45 rfl rfl), (rx_g1 3 rfl rfl), (by decide +kernel), (by decide +kernel), (by decide +kernel)⟩
set_option maxRecDepth 100000 in
theorem V_X5_hasPerson : rx_YV yX5_hasPerson := ⟨(rx_g2 44 rfl rfl), (rx_g0 5 rfl rfl)⟩
set_option maxRecDepth 100000 in
theorem Y_X5_hasKing : rx_Y yX5_hasKing cX5_hasKing 2 (some .boolean) 1 := ⟨(rx_g2 41 rfl rfl), (rx_g1 3 rfl rfl), (by decide +kernel), (by decide +kernel), (by decide +kernel)⟩
set_option maxRecDepth 100000 in
theorem V_X5_hasKing : rx_YV yX5_hasKing := ⟨(rx_g2 40 rfl rfl), (rx_g0 4 rfl rfl)⟩
set_option maxRecDepth 100000 in
theorem Y_X5_kingsInAll : rx_Y yX5_kingsInAll cX5_kingsInAll 3 (some .int) 0 := ⟨(rx_g5 30 rfl rfl), (rx_g1 3 rfl rfl), (by decide +kernel), (by decide +kernel), (by decide +kernel)⟩
set_option maxRecDepth 100000 in
theorem V_X5_kingsInAll : rx_YV yX5_kingsInAll := ⟨(rx_g5 29 rfl rfl), (rx_g0 73 rfl rfl)⟩
set_option maxRecDepth 100000 in
theorem Y_X5_coinsInAll : rx_Y yX5_coinsInAll cX5_coinsInAll 3 (some .int) 0 := ⟨(rx_g2 102 rfl rfl), (rx_g1 3 rfl rfl), (by decide +kernel), (by decide +kernel), (by decide +kernel)⟩
set_option maxRecDepth 100000 in
theorem V_X5_coinsInAll : rx_YV yX5_coinsInAll := ⟨(rx_g2 101 rfl rfl), (rx_g0 8 rfl rfl)⟩
set_option maxRecDepth 100000 in
theorem Y_X5_tollFor : rx_Y yX5_tollFor cX5_tollFor 2 (some .int) 1 := ⟨(rx_g4 213 rfl rfl), (rx_g1 3 rfl rfl), (by decide +kernel), (by decide +kernel), (by decide +kernel)⟩
set_option maxRecDepth 100000 in
theorem V_X5_tollFor : rx_YV yX5_tollFor := ⟨(rx_g4 212 rfl rfl), (rx_g0 66 rfl rfl)⟩
set_option maxRecDepth 100000 in
theorem Y_X5_opens : rx_Y yX5_opens cX5_opens 4 (some .boolean) 2 := ⟨(rx_g4 194 rfl rfl), (rx_g1 3 rfl rfl), (by decide +kernel), (by decide +kernel), (by decide +kernel)⟩
set_option maxRecDepth 100000 in
theorem V_X5_opens : rx_YV yX5_opens := ⟨(rx_g4 193 rfl rfl), (rx_g0 62 rfl rfl)⟩
set_option maxRecDepth 100000 in
theorem Y_X6_init : rx_Y yX6_init cX6_init 1 none 0 := ⟨(rx_g1 35 rfl rfl), (rx_g1 2 rfl rfl), (by decide +kernel), (by decide +kernel), (by decide +kernel)⟩
set_option maxRecDepth 100000 in
theorem I_X6_init : Cond.instanceMethod yX6_init ∈ rx_good := (rx_g1 34 rfl rfl)
set_option maxRecDepth 100000 in
theorem Y_X6_appendWord : rx_Y yX6_appendWord cX6_appendWord 3 none 1 := ⟨(rx_g2 216 rfl rfl), (rx_g1 2 rfl rfl), (by decide +kernel), (by decide +kernel), (by decide +kernel)⟩
set_option maxRecDepth 100000 in
theorem V_X6_appendWord : rx_YV yX6_appendWord := ⟨(rx_g2 215 rfl rfl), (rx_g0 14 rfl rfl)⟩
set_option maxRecDepth 100000 in
theorem Y_X6_open : rx_Y yX6_open cX6_open 2 none 1 := ⟨(rx_g3 57 rfl rfl), (rx_g1 2 rfl rfl), (by decide +kernel), (by decide +kernel), (by decide +kernel)⟩
set_option maxRecDepth 100000 in
theorem V_X6_open : rx_YV yX6_open := ⟨(rx_g3 56 rfl rfl), (rx_g0 17 rfl rfl)⟩
set_option maxRecDepth 100000 in
theorem Y_X6_hasFailed : rx_Y yX6_hasFailed cX6_hasFailed 1 (some .boolean) 0 := ⟨(rx_g3 140 rfl rfl), (rx_g1 2 rfl rfl), (by decide +kernel), (by decide +kernel), (by decide +kernel)⟩
set_option maxRecDepth 100000 in
theorem V_X6_hasFailed : rx_YV yX6_hasFailed := ⟨(rx_g3 139 rfl rfl), (rx_g0 28 rfl rfl)⟩
set_option maxRecDepth 100000 in
theorem Y_X6_fail : rx_Y yX6_fail cX6_fail 2 none 1 := ⟨(rx_g3 98 rfl rfl), (rx_g1 2 rfl rfl), (by decide +kernel), (by decide +kernel), (by decide +kernel)⟩
set_option maxRecDepth 100000 in
theorem V_X6_fail : rx_YV yX6_fail := ⟨(rx_g3 97 rfl rfl), (rx_g0 23 rfl rfl)⟩
set_option maxRecDepth 100000 in
theorem Y_X6_isAtEnd : rx_Y yX6_isAtEnd cX6_isAtEnd 1 (some .boolean) 0 := ⟨(rx_g3 136 rfl rfl), (rx_g1 2 rfl rfl), (by decide +kernel), (by decide +kernel), (by decide +kernel)⟩
set_option maxRecDepth 100000 in
theorem V_X6_isAtEnd : rx_YV yX6_isAtEnd := ⟨(rx_g3 135 rfl rfl), (rx_g0 27 rfl rfl)⟩
set_option maxRecDepth 100000 in
theorem Y_X6_isAtWord : rx_Y yX6_isAtWord cX6_isAtWord 3 (some .boolean) 1 := ⟨(rx_g3 92 rfl rfl), (rx_g1 2 rfl rfl), (by decide +kernel), (by decide +kernel), (by decide +kernel)⟩
set_option maxRecDepth 100000 in
theorem V_X6_isAtWord : rx_YV yX6_isAtWord := ⟨(rx_g3 91 rfl rfl), (rx_g0 22 rfl rfl)⟩
set_option maxRecDepth 100000 in
theorem Y_X6_takeWord : rx_Y yX6_takeWord cX6_takeWord 2 none 1 := ⟨(rx_g3 88 rfl rfl), (rx_g1 2 rfl rfl), (by decide +kernel), (by decide +kernel), (by decide +kernel)⟩
set_option maxRecDepth 100000 in
theorem V_X6_takeWord : rx_YV yX6_takeWord := ⟨(rx_g3 87 rfl rfl), (rx_g0 21 rfl rfl)⟩
set_option maxRecDepth 100000 in
theorem Y_X6_takeEither : rx_Y yX6_takeEither cX6_takeEither 4 (some .int) 2 := ⟨(rx_g3 123 rfl rfl), (rx_g1 2 rfl rfl), (by decide +kernel), (by decide +kernel), (by decide +kernel)⟩
set_option maxRecDepth 100000 in
theorem V_X6_takeEither : rx_YV yX6_takeEither := ⟨(rx_g3 122 rfl rfl), (rx_g0 26 rfl rfl)⟩
set_option maxRecDepth 100000 in
theorem Y_X6_takeSemicolon : rx_Y yX6_takeSemicolon cX6_takeSemicolon 1 none 0 := ⟨(rx_g3 106 rfl rfl), (rx_g1 2 rfl rfl), (by decide +kernel), (by decide +kernel), (by decide +kernel)⟩
set_option maxRecDepth 100000 in
theorem V_X6_takeSemicolon : rx_YV yX6_takeSemicolon := ⟨(rx_g3 105 rfl rfl), (rx_g0 25 rfl rfl)⟩
set_option maxRecDepth 100000 in
theorem Y_X6_takeNumber : rx_Y yX6_takeNumber cX6_takeNumber 4 (some .int) 2 := ⟨(rx_g3 102 rfl rfl), (rx_g1 2 rfl rfl), (by decide +kernel), (by decide +kernel), (by decide +kernel)⟩
set_option maxRecDepth 100000 in
theorem V_X6_takeNumber : rx_YV yX6_takeNumber := ⟨(rx_g3 101 rfl rfl), (rx_g0 24 rfl rfl)⟩
set_option maxRecDepth 100000 in
theorem Y_X6_advance : rx_Y yX6_advance cX6_advance 1 none 0 := ⟨(rx_g3 61 rfl rfl), (rx_g1 2 rfl rfl), (by decide +kernel), (by decide +kernel), (by decide +kernel)⟩
set_option maxRecDepth 100000 in
theorem V_X6_advance : rx_YV yX6_advance := ⟨(rx_g3 60 rfl rfl), (rx_g0 18 rfl rfl)⟩
set_option maxRecDepth 100000 in
theorem Y_X6_scanWord : rx_Y yX6_scanWord cX6_scanWord 1 none 0 := ⟨(rx_g3 72 rfl rfl), (rx_g1 2 rfl rfl), (by decide +kernel), (by decide +kernel), (by decide +kernel)⟩
set_option maxRecDepth 100000 in
theorem V_X6_scanWord : rx_YV yX6_scanWord := ⟨(rx_g3 71 rfl rfl), (rx_g0 19 rfl rfl)⟩
set_option maxRecDepth 100000 in
theorem Y_X6_scanNumber : rx_Y yX6_scanNumber cX6_scanNumber 1 none 0 := ⟨(rx_g3 79 rfl rfl), (rx_g1 2 rfl rfl), (by decide +kernel), (by decide +kernel), (by decide +kernel)⟩
set_option maxRecDepth 100000 in
theorem V_X6_scanNumber : rx_YV yX6_scanNumber := ⟨(rx_g3 78 rfl rfl), (rx_g0 20 rfl rfl)⟩
set_option maxRecDepth 100000 in
theorem Y_X6_isBlank : rx_Y yX6_isBlank cX6_isBlank 1 (some .boolean) 1 := ⟨(rx_g3 65 rfl rfl), (rx_g1 2 rfl rfl), (by decide +kernel), (by decide +kernel), (by decide +kernel)⟩
set_option maxRecDepth 100000 in
theorem S_X6_isBlank : Cond.static yX6_isBlank ∈ rx_good := (rx_g3 64 rfl rfl)
set_option maxRecDepth 100000 in
theorem Y_X6_isLetter : rx_Y yX6_isLetter cX6_isLetter 1 (some .boolean) 1 := ⟨(rx_g3 68 rfl rfl), (rx_g1 2 rfl rfl), (by decide +kernel), (by decide +kernel), (by decide +kernel)⟩
set_option maxRecDepth 100000 in
theorem S_X6_isLetter : Cond.static yX6_isLetter ∈ rx_good := (rx_g3 67 rfl rfl)
set_option maxRecDepth 100000 in
theorem Y_X6_isDigit : rx_Y yX6_isDigit cX6_isDigit 1 (some .boolean) 1 := ⟨(rx_g3 75 rfl rfl), (rx_g1 2 rfl rfl), (by decide +kernel), (by decide +kernel), (by decide +kernel)⟩
set_option maxRecDepth 100000 in
theorem S_X6_isDigit : Cond.static yX6_isDigit ∈ rx_good := (rx_g3 74 rfl rfl)
set_option maxRecDepth 100000 in
theorem Y_X7_allows : rx_Y yX7_allows cX7_allows 2 (some .boolean) 1 := ⟨(rx_g3 236 rfl rfl), (rx_g1 20 rfl rfl), (by decide +kernel), (by decide +kernel), (by decide +kernel)⟩
set_option maxRecDepth 100000 in
theorem V_X7_allows : rx_YV yX7_allows := ⟨(rx_g3 234 rfl rfl), (rx_g0 37 rfl rfl)⟩
set_option maxRecDepth 100000 in
theorem Y_X8_init : rx_Y yX8_init cX8_init 1 none 0 := ⟨(rx_g1 27 rfl rfl), (rx_g1 1 rfl rfl), (by decide +kernel), (by decide +kernel), (by decide +kernel)⟩
set_option maxRecDepth 100000 in
theorem I_X8_init : Cond.instanceMethod yX8_init ∈ rx_good := (rx_g1 26 rfl rfl)
set_option maxRecDepth 100000 in
theorem Y_X8_appendText : rx_Y yX8_appendText cX8_appendText 6 (some .int) 5 := ⟨(rx_g2 212 rfl rfl), (rx_g1 1 rfl rfl), (by decide +kernel), (by decide +kernel), (by decide +kernel)⟩
set_option maxRecDepth 100000 in
theorem V_X8_appendText : rx_YV yX8_appendText := ⟨(rx_g2 210 rfl rfl), (rx_g2 211 rfl rfl)⟩
set_option maxRecDepth 100000 in
theorem Y_X8_loadGame : rx_Y yX8_loadGame cX8_loadGame 2 (some .int) 1 := ⟨(rx_g2 221 rfl rfl), (rx_g1 1 rfl rfl), (by decide +kernel), (by decide +kernel), (by decide +kernel)⟩
set_option maxRecDepth 100000 in
theorem V_X8_loadGame : rx_YV yX8_loadGame := ⟨(rx_g2 219 rfl rfl), (rx_g2 220 rfl rfl)⟩
set_option maxRecDepth 100000 in
theorem Y_X8_errorCode : rx_Y yX8_errorCode cX8_errorCode 1 (some .int) 0 := ⟨(rx_g3 153 rfl rfl), (rx_g1 1 rfl rfl), (by decide +kernel), (by decide +kernel), (by decide +kernel)⟩
set_option maxRecDepth 100000 in
theorem V_X8_errorCode : rx_YV yX8_errorCode := ⟨(rx_g3 151 rfl rfl), (rx_g3 152 rfl rfl)⟩
set_option maxRecDepth 100000 in
theorem Y_X8_errorOffset : rx_Y yX8_errorOffset cX8_errorOffset 1 (some .int) 0 := ⟨(rx_g3 157 rfl rfl), (rx_g1 1 rfl rfl), (by decide +kernel), (by decide +kernel), (by decide +kernel)⟩
set_option maxRecDepth 100000 in
theorem V_X8_errorOffset : rx_YV yX8_errorOffset := ⟨(rx_g3 155 rfl rfl), (rx_g3 156 rfl rfl)⟩
set_option maxRecDepth 100000 in
theorem Y_X8_turn : rx_Y yX8_turn cX8_turn 1 (some .int) 0 := ⟨(rx_g3 161 rfl rfl), (rx_g1 1 rfl rfl), (by decide +kernel), (by decide +kernel), (by decide +kernel)⟩
set_option maxRecDepth 100000 in
theorem V_X8_turn : rx_YV yX8_turn := ⟨(rx_g3 159 rfl rfl), (rx_g3 160 rfl rfl)⟩
set_option maxRecDepth 100000 in
theorem Y_X8_limitAngle : rx_Y yX8_limitAngle cX8_limitAngle 1 (some .int) 0 := ⟨(rx_g5 56 rfl rfl), (rx_g1 1 rfl rfl), (by decide +kernel), (by decide +kernel), (by decide +kernel)⟩
set_option maxRecDepth 100000 in
theorem V_X8_limitAngle : rx_YV yX8_limitAngle := ⟨(rx_g5 54 rfl rfl), (rx_g5 55 rfl rfl)⟩
set_option maxRecDepth 100000 in
theorem Y_X8_tollBox : rx_Y yX8_tollBox cX8_tollBox 1 (some .int) 0 := ⟨(rx_g3 165 rfl rfl), (rx_g1 1 rfl rfl), (by decide +kernel), (by decide +kernel), (by decide +kernel)⟩
set_option maxRecDepth 100000 in
theorem V_X8_tollBox : rx_YV yX8_tollBox := ⟨(rx_g3 163 rfl rfl), (rx_g3 164 rfl rfl)⟩
set_option maxRecDepth 100000 in
theorem Y_X8_groundCoins : rx_Y yX8_groundCoins cX8_groundCoins 2 (some .int) 1 := ⟨(rx_g4 64 rfl rfl), (rx_g1 1 rfl rfl), (by decide +kernel), (by decide +kernel), (by decide +kernel)⟩
set_option maxRecDepth 100000 in
theorem V_X8_groundCoins : rx_YV yX8_groundCoins := ⟨(rx_g4 62 rfl rfl), (rx_g4 63 rfl rfl)⟩
set_option maxRecDepth 100000 in
theorem Y_X8_kingCount : rx_Y yX8_kingCount cX8_kingCount 1 (some .int) 0 := ⟨(rx_g5 26 rfl rfl), (rx_g1 1 rfl rfl), (by decide +kernel), (by decide +kernel), (by decide +kernel)⟩
set_option maxRecDepth 100000 in
theorem V_X8_kingCount : rx_YV yX8_kingCount := ⟨(rx_g5 24 rfl rfl), (rx_g5 25 rfl rfl)⟩
set_option maxRecDepth 100000 in
theorem Y_X8_bankCount : rx_Y yX8_bankCount cX8_bankCount 2 (some .int) 1 := ⟨(rx_g5 34 rfl rfl), (rx_g1 1 rfl rfl), (by decide +kernel), (by decide +kernel), (by decide +kernel)⟩
set_option maxRecDepth 100000 in
theorem V_X8_bankCount : rx_YV yX8_bankCount := ⟨(rx_g5 32 rfl rfl), (rx_g5 33 rfl rfl)⟩
set_option maxRecDepth 100000 in
theorem Y_X8_isKing : rx_Y yX8_isKing cX8_isKing 2 (some .boolean) 1 := ⟨(rx_g3 177 rfl rfl), (rx_g1 1 rfl rfl), (by decide +kernel), (by decide +kernel), (by decide +kernel)⟩
set_option maxRecDepth 100000 in
theorem V_X8_isKing : rx_YV yX8_isKing := ⟨(rx_g3 175 rfl rfl), (rx_g3 176 rfl rfl)⟩
set_option maxRecDepth 100000 in
theorem Y_X8_isEast : rx_Y yX8_isEast cX8_isEast 2 (some .boolean) 1 := ⟨(rx_g4 60 rfl rfl), (rx_g1 1 rfl rfl), (by decide +kernel), (by decide +kernel), (by decide +kernel)⟩
set_option maxRecDepth 100000 in
theorem V_X8_isEast : rx_YV yX8_isEast := ⟨(rx_g4 58 rfl rfl), (rx_g4 59 rfl rfl)⟩
set_option maxRecDepth 100000 in
theorem Y_X8_coins : rx_Y yX8_coins cX8_coins 2 (some .int) 1 := ⟨(rx_g3 203 rfl rfl), (rx_g1 1 rfl rfl), (by decide +kernel), (by decide +kernel), (by decide +kernel)⟩
set_option maxRecDepth 100000 in
theorem V_X8_coins : rx_YV yX8_coins := ⟨(rx_g3 201 rfl rfl), (rx_g3 202 rfl rfl)⟩
set_option maxRecDepth 100000 in
theorem Y_X8_rags : rx_Y yX8_rags cX8_rags 2 (some .int) 1 := ⟨(rx_g5 5 rfl rfl), (rx_g1 1 rfl rfl), (by decide +kernel), (by decide +kernel), (by decide +kernel)⟩
set_option maxRecDepth 100000 in
theorem V_X8_rags : rx_YV yX8_rags := ⟨(rx_g5 3 rfl rfl), (rx_g5 4 rfl rfl)⟩
set_option maxRecDepth 100000 in
theorem Y_X8_wearer : rx_Y yX8_wearer cX8_wearer 2 (some .int) 1 := ⟨(rx_g5 9 rfl rfl), (rx_g1 1 rfl rfl), (by decide +kernel), (by decide +kernel), (by decide +kernel)⟩
set_option maxRecDepth 100000 in
theorem V_X8_wearer : rx_YV yX8_wearer := ⟨(rx_g5 7 rfl rfl), (rx_g5 8 rfl rfl)⟩
set_option maxRecDepth 100000 in
theorem Y_X8_crossings : rx_Y yX8_crossings cX8_crossings 2 (some .int) 1 := ⟨(rx_g4 237 rfl rfl), (rx_g1 1 rfl rfl), (by decide +kernel), (by decide +kernel), (by decide +kernel)⟩
set_option maxRecDepth 100000 in
theorem V_X8_crossings : rx_YV yX8_crossings := ⟨(rx_g4 235 rfl rfl), (rx_g4 236 rfl rfl)⟩
set_option maxRecDepth 100000 in
theorem Y_X8_royalHolder : rx_Y yX8_royalHolder cX8_royalHolder 2 (some .int) 1 := ⟨(rx_g4 81 rfl rfl), (rx_g1 1 rfl rfl), (by decide +kernel), (by decide +kernel), (by decide +kernel)⟩
set_option maxRecDepth 100000 in
theorem V_X8_royalHolder : rx_YV yX8_royalHolder := ⟨(rx_g4 79 rfl rfl), (rx_g4 80 rfl rfl)⟩
set_option maxRecDepth 100000 in
theorem Y_X8_isRoyalCoinEast : rx_Y yX8_isRoyalCoinEast cX8_isRoyalCoinEast 2 (some .boolean) 1 := ⟨(rx_g4 104 rfl rfl), (rx_g1 1 rfl rfl), (by decide +kernel), (by decide +kernel), (by decide +kernel)⟩
set_option maxRecDepth 100000 in
theorem V_X8_isRoyalCoinEast : rx_YV yX8_isRoyalCoinEast := ⟨(rx_g4 102 rfl rfl), (rx_g4 103 rfl rfl)⟩
set_option maxRecDepth 100000 in
theorem Y_X8_isCounted : rx_Y yX8_isCounted cX8_isCounted 2 (some .boolean) 1 := ⟨(rx_g5 22 rfl rfl), (rx_g1 1 rfl rfl), (by decide +kernel), (by decide +kernel), (by decide +kernel)⟩
set_option maxRecDepth 100000 in
theorem V_X8_isCounted : rx_YV yX8_isCounted := ⟨(rx_g5 20 rfl rfl), (rx_g5 21 rfl rfl)⟩
set_option maxRecDepth 100000 in
theorem Y_X8_royalCoins : rx_Y yX8_royalCoins cX8_royalCoins 2 (some .int) 1 := ⟨(rx_g5 17 rfl rfl), (rx_g1 1 rfl rfl), (by decide +kernel), (by decide +kernel), (by decide +kernel)⟩
set_option maxRecDepth 100000 in
theorem V_X8_royalCoins : rx_YV yX8_royalCoins := ⟨(rx_g5 15 rfl rfl), (rx_g5 16 rfl rfl)⟩
set_option maxRecDepth 100000 in
theorem Y_X8_countedRoyalCoins : rx_Y yX8_countedRoyalCoins cX8_countedRoyalCoins 1 (some .int) 0 := ⟨(rx_g2 85 rfl rfl), (rx_g1 1 rfl rfl), (by decide +kernel), (by decide +kernel), (by decide +kernel)⟩
set_option maxRecDepth 100000 in
theorem V_X8_countedRoyalCoins : rx_YV yX8_countedRoyalCoins := ⟨(rx_g2 83 rfl rfl), (rx_g2 84 rfl rfl)⟩
set_option maxRecDepth 100000 in
theorem Y_X8_queueLength : rx_Y yX8_queueLength cX8_queueLength 2 (some .int) 1 := ⟨(rx_g5 46 rfl rfl), (rx_g1 1 rfl rfl), (by decide +kernel), (by decide +kernel), (by decide +kernel)⟩
set_option maxRecDepth 100000 in
theorem V_X8_queueLength : rx_YV yX8_queueLength := ⟨(rx_g5 44 rfl rfl), (rx_g5 45 rfl rfl)⟩
set_option maxRecDepth 100000 in
theorem Y_X8_queued : rx_Y yX8_queued cX8_queued 3 (some .int) 2 := ⟨(rx_g5 51 rfl rfl), (rx_g1 1 rfl rfl), (by decide +kernel), (by decide +kernel), (by decide +kernel)⟩
set_option maxRecDepth 100000 in
theorem V_X8_queued : rx_YV yX8_queued := ⟨(rx_g5 49 rfl rfl), (rx_g5 50 rfl rfl)⟩
set_option maxRecDepth 100000 in
theorem Y_X8_offer : rx_Y yX8_offer cX8_offer 2 (some .int) 1 := ⟨(rx_g4 132 rfl rfl), (rx_g1 1 rfl rfl), (by decide +kernel), (by decide +kernel), (by decide +kernel)⟩
set_option maxRecDepth 100000 in
theorem V_X8_offer : rx_YV yX8_offer := ⟨(rx_g4 130 rfl rfl), (rx_g4 131 rfl rfl)⟩
set_option maxRecDepth 100000 in
theorem Y_X8_coinGap : rx_Y yX8_coinGap cX8_coinGap 1 (some .int) 0 := ⟨(rx_g2 94 rfl rfl), (rx_g1 1 rfl rfl), (by decide +kernel), (by decide +kernel), (by decide +kernel)⟩
set_option maxRecDepth 100000 in
theorem V_X8_coinGap : rx_YV yX8_coinGap := ⟨(rx_g2 92 rfl rfl), (rx_g2 93 rfl rfl)⟩
set_option maxRecDepth 100000 in
theorem Y_X8_dropCoins : rx_Y yX8_dropCoins cX8_dropCoins 3 (some .int) 2 := ⟨(rx_g3 208 rfl rfl), (rx_g1 1 rfl rfl), (by decide +kernel), (by decide +kernel), (by decide +kernel)⟩
set_option maxRecDepth 100000 in
theorem V_X8_dropCoins : rx_YV yX8_dropCoins := ⟨(rx_g3 206 rfl rfl), (rx_g3 207 rfl rfl)⟩
set_option maxRecDepth 100000 in
theorem Y_X8_pickCoins : rx_Y yX8_pickCoins cX8_pickCoins 3 (some .int) 2 := ⟨(rx_g4 71 rfl rfl), (rx_g1 1 rfl rfl), (by decide +kernel), (by decide +kernel), (by decide +kernel)⟩
set_option maxRecDepth 100000 in
theorem V_X8_pickCoins : rx_YV yX8_pickCoins := ⟨(rx_g4 69 rfl rfl), (rx_g4 70 rfl rfl)⟩
set_option maxRecDepth 100000 in
theorem Y_X8_layRoyalCoin : rx_Y yX8_layRoyalCoin cX8_layRoyalCoin 3 (some .int) 2 := ⟨(rx_g4 90 rfl rfl), (rx_g1 1 rfl rfl), (by decide +kernel), (by decide +kernel), (by decide +kernel)⟩
set_option maxRecDepth 100000 in
theorem V_X8_layRoyalCoin : rx_YV yX8_layRoyalCoin := ⟨(rx_g4 88 rfl rfl), (rx_g4 89 rfl rfl)⟩
set_option maxRecDepth 100000 in
theorem Y_X8_liftRoyalCoin : rx_Y yX8_liftRoyalCoin cX8_liftRoyalCoin 3 (some .int) 2 := ⟨(rx_g4 112 rfl rfl), (rx_g1 1 rfl rfl), (by decide +kernel), (by decide +kernel), (by decide +kernel)⟩
set_option maxRecDepth 100000 in
theorem V_X8_liftRoyalCoin : rx_YV yX8_liftRoyalCoin := ⟨(rx_g4 110 rfl rfl), (rx_g4 111 rfl rfl)⟩
set_option maxRecDepth 100000 in
theorem Y_X8_swapRags : rx_Y yX8_swapRags cX8_swapRags 3 (some .int) 2 := ⟨(rx_g4 122 rfl rfl), (rx_g1 1 rfl rfl), (by decide +kernel), (by decide +kernel), (by decide +kernel)⟩
set_option maxRecDepth 100000 in
theorem V_X8_swapRags : rx_YV yX8_swapRags := ⟨(rx_g4 120 rfl rfl), (rx_g4 121 rfl rfl)⟩
set_option maxRecDepth 100000 in
theorem Y_X8_joinQueue : rx_Y yX8_joinQueue cX8_joinQueue 3 (some .int) 2 := ⟨(rx_g4 137 rfl rfl), (rx_g1 1 rfl rfl), (by decide +kernel), (by decide +kernel), (by decide +kernel)⟩
set_option maxRecDepth 100000 in
theorem V_X8_joinQueue : rx_YV yX8_joinQueue := ⟨(rx_g4 135 rfl rfl), (rx_g4 136 rfl rfl)⟩
set_option maxRecDepth 100000 in
theorem Y_X8_quitQueue : rx_Y yX8_quitQueue cX8_quitQueue 2 (some .int) 1 := ⟨(rx_g4 152 rfl rfl), (rx_g1 1 rfl rfl), (by decide +kernel), (by decide +kernel), (by decide +kernel)⟩
set_option maxRecDepth 100000 in
theorem V_X8_quitQueue : rx_YV yX8_quitQueue := ⟨(rx_g4 150 rfl rfl), (rx_g4 151 rfl rfl)⟩
set_option maxRecDepth 100000 in
theorem Y_X8_setPride : rx_Y yX8_setPride cX8_setPride 3 (some .int) 2 := ⟨(rx_g4 166 rfl rfl), (rx_g1 1 rfl rfl), (by decide +kernel), (by decide +kernel), (by decide +kernel)⟩
set_option maxRecDepth 100000 in
theorem V_X8_setPride : rx_YV yX8_setPride := ⟨(rx_g4 164 rfl rfl), (rx_g4 165 rfl rfl)⟩
set_option maxRecDepth 100000 in
theorem Y_X8_passTurns : rx_Y yX8_passTurns cX8_passTurns 2 (some .int) 1 := ⟨(rx_g4 176 rfl rfl), (rx_g1 1 rfl rfl), (by decide +kernel), (by decide +kernel), (by decide +kernel)⟩
set_option maxRecDepth 100000 in
theorem V_X8_passTurns : rx_YV yX8_passTurns := ⟨(rx_g4 174 rfl rfl), (rx_g4 175 rfl rfl)⟩
set_option maxRecDepth 100000 in
theorem Y_X8_requirePerson : rx_Y yX8_requirePerson cX8_requirePerson 2 none 1 := ⟨(rx_g3 181 rfl rfl), (rx_g1 1 rfl rfl), (by decide +kernel), (by decide +kernel), (by decide +kernel)⟩
set_option maxRecDepth 100000 in
theorem V_X8_requirePerson : rx_YV yX8_requirePerson := ⟨(rx_g3 180 rfl rfl), (rx_g0 33 rfl rfl)⟩
set_option maxRecDepth 100000 in
theorem Y_X8_requireKing : rx_Y yX8_requireKing cX8_requireKing 2 none 1 := ⟨(rx_g4 85 rfl rfl), (rx_g1 1 rfl rfl), (by decide +kernel), (by decide +kernel), (by decide +kernel)⟩
set_option maxRecDepth 100000 in
theorem V_X8_requireKing : rx_YV yX8_requireKing := ⟨(rx_g4 84 rfl rfl), (rx_g0 48 rfl rfl)⟩
set_option maxRecDepth 100000 in
theorem Y_X8_requireLength : rx_Y yX8_requireLength cX8_requireLength 2 none 1 := ⟨(rx_g2 225 rfl rfl), (rx_g1 1 rfl rfl), (by decide +kernel), (by decide +kernel), (by decide +kernel)⟩
set_option maxRecDepth 100000 in
theorem V_X8_requireLength : rx_YV yX8_requireLength := ⟨(rx_g2 224 rfl rfl), (rx_g0 15 rfl rfl)⟩
set_option maxRecDepth 100000 in
theorem Y_X8_allow : rx_Y yX8_allow cX8_allow 5 none 3 := ⟨(rx_g3 214 rfl rfl), (rx_g1 1 rfl rfl), (by decide +kernel), (by decide +kernel), (by decide +kernel)⟩
set_option maxRecDepth 100000 in
theorem V_X8_allow : rx_YV yX8_allow := ⟨(rx_g3 213 rfl rfl), (rx_g0 34 rfl rfl)⟩
set_option maxRecDepth 100000 in
theorem Y_X8_bankOf : rx_Y yX8_bankOf cX8_bankOf 1 (some .int) 1 := ⟨(rx_g4 67 rfl rfl), (rx_g1 1 rfl rfl), (by decide +kernel), (by decide +kernel), (by decide +kernel)⟩
set_option maxRecDepth 100000 in
theorem S_X8_bankOf : Cond.static yX8_bankOf ∈ rx_good := (rx_g4 66 rfl rfl)
set_option maxRecDepth 100000 in
theorem Y_X8_at : rx_Y yX8_at cX8_at 2 (some .int) 2 := ⟨(rx_g2 48 rfl rfl), (rx_g1 1 rfl rfl), (by decide +kernel), (by decide +kernel), (by decide +kernel)⟩
set_option maxRecDepth 100000 in
theorem S_X8_at : Cond.static yX8_at ∈ rx_good := (rx_g2 47 rfl rfl)
set_option maxRecDepth 100000 in
theorem Y_X8_put : rx_Y yX8_put cX8_put 3 none 3 := ⟨(rx_g2 19 rfl rfl), (rx_g1 1 rfl rfl), (by decide +kernel), (by decide +kernel), (by decide +kernel)⟩
set_option maxRecDepth 100000 in
theorem S_X8_put : Cond.static yX8_put ∈ rx_good := (rx_g2 18 rfl rfl)
set_option maxRecDepth 100000 in
theorem Y_X8_add : rx_Y yX8_add cX8_add 3 none 3 := ⟨(rx_g4 55 rfl rfl), (rx_g1 1 rfl rfl), (by decide +kernel), (by decide +kernel), (by decide +kernel)⟩
set_option maxRecDepth 100000 in
theorem S_X8_add : Cond.static yX8_add ∈ rx_good := (rx_g4 54 rfl rfl)
set_option maxRecDepth 100000 in
theorem Y_X8_copyRow : rx_Y yX8_copyRow cX8_copyRow 2 none 2 := ⟨(rx_g2 31 rfl rfl), (rx_g1 1 rfl rfl), (by decide +kernel), (by decide +kernel), (by decide +kernel)⟩
set_option maxRecDepth 100000 in
theorem S_X8_copyRow : Cond.static yX8_copyRow ∈ rx_good := (rx_g2 30 rfl rfl)
set_option maxRecDepth 100000 in
theorem Y_X8_readHeader : rx_Y yX8_readHeader cX8_readHeader 6 none 2 := ⟨(rx_g3 83 rfl rfl), (rx_g1 1 rfl rfl), (by decide +kernel), (by decide +kernel), (by decide +kernel)⟩
set_option maxRecDepth 100000 in
theorem S_X8_readHeader : Cond.static yX8_readHeader ∈ rx_good := (rx_g3 82 rfl rfl)
set_option maxRecDepth 100000 in
theorem Y_X8_readPeople : rx_Y yX8_readPeople cX8_readPeople 3 none 2 := ⟨(rx_g3 109 rfl rfl), (rx_g1 1 rfl rfl), (by decide +kernel), (by decide +kernel), (by decide +kernel)⟩
set_option maxRecDepth 100000 in
theorem S_X8_readPeople : Cond.static yX8_readPeople ∈ rx_good := (rx_g3 108 rfl rfl)
set_option maxRecDepth 100000 in
theorem Y_X8_isAtPerson : rx_Y yX8_isAtPerson cX8_isAtPerson 1 (some .boolean) 1 := ⟨(rx_g3 112 rfl rfl), (rx_g1 1 rfl rfl), (by decide +kernel), (by decide +kernel), (by decide +kernel)⟩
set_option maxRecDepth 100000 in
theorem S_X8_isAtPerson : Cond.static yX8_isAtPerson ∈ rx_good := (rx_g3 111 rfl rfl)
set_option maxRecDepth 100000 in
theorem Y_X8_readPerson : rx_Y yX8_readPerson cX8_readPerson 7 none 2 := ⟨(rx_g3 119 rfl rfl), (rx_g1 1 rfl rfl), (by decide +kernel), (by decide +kernel), (by decide +kernel)⟩
set_option maxRecDepth 100000 in
theorem S_X8_readPerson : Cond.static yX8_readPerson ∈ rx_good := (rx_g3 118 rfl rfl)
set_option maxRecDepth 100000 in
theorem Y_X8_readBridges : rx_Y yX8_readBridges cX8_readBridges 3 none 2 := ⟨(rx_g3 128 rfl rfl), (rx_g1 1 rfl rfl), (by decide +kernel), (by decide +kernel), (by decide +kernel)⟩
set_option maxRecDepth 100000 in
theorem S_X8_readBridges : Cond.static yX8_readBridges ∈ rx_good := (rx_g3 127 rfl rfl)
set_option maxRecDepth 100000 in
theorem Y_X8_readBridge : rx_Y yX8_readBridge cX8_readBridge 5 none 2 := ⟨(rx_g3 132 rfl rfl), (rx_g1 1 rfl rfl), (by decide +kernel), (by decide +kernel), (by decide +kernel)⟩
set_option maxRecDepth 100000 in
theorem S_X8_readBridge : Cond.static yX8_readBridge ∈ rx_good := (rx_g3 131 rfl rfl)
set_option maxRecDepth 100000 in
theorem Y_Jx29ce0_ordinal_8abf5 : rx_Y yJx29ce0_ordinal_8abf5 cJx29ce0_ordinal_8abf5 1 (some .int) 0 := ⟨(rx_g3 231 rfl rfl), (rx_g1 19 rfl rfl), (by decide +kernel), (by decide +kernel), (by decide +kernel)⟩
set_option maxRecDepth 100000 in
theorem Y_J9_abs_0f7a4 : rx_Y yJ9_abs_0f7a4 cJ9_abs_0f7a4 1 (some .int) 1 := ⟨(rx_g2 105 rfl rfl), (rx_g1 8 rfl rfl), (by decide +kernel), (by decide +kernel), (by decide +kernel)⟩
set_option maxRecDepth 100000 in
theorem S_J9_abs_0f7a4 : Cond.static yJ9_abs_0f7a4 ∈ rx_good := (rx_g2 104 rfl rfl)
set_option maxRecDepth 100000 in
theorem Y_J9_max_7cf53 : rx_Y yJ9_max_7cf53 cJ9_max_7cf53 2 (some .int) 2 := ⟨(rx_g4 224 rfl rfl), (rx_g1 8 rfl rfl), (by decide +kernel), (by decide +kernel), (by decide +kernel)⟩
set_option maxRecDepth 100000 in
theorem S_J9_max_7cf53 : Cond.static yJ9_max_7cf53 ∈ rx_good := (rx_g4 223 rfl rfl)
set_option maxRecDepth 100000 in
theorem Y_J9_min_7cf53 : rx_Y yJ9_min_7cf53 cJ9_min_7cf53 2 (some .int) 2 := ⟨(rx_g2 34 rfl rfl), (rx_g1 8 rfl rfl), (by decide +kernel), (by decide +kernel), (by decide +kernel)⟩
set_option maxRecDepth 100000 in
theorem S_J9_min_7cf53 : Cond.static yJ9_min_7cf53 ∈ rx_good := (rx_g2 33 rfl rfl)
set_option maxRecDepth 100000 in
theorem Y_J0_length_8abf5 : rx_Y yJ0_length_8abf5 cJ0_length_8abf5 1 (some .int) 0 := ⟨(rx_g2 144 rfl rfl), (rx_g1 10 rfl rfl), (by decide +kernel), (by decide +kernel), (by decide +kernel)⟩
set_option maxRecDepth 100000 in
theorem V_J0_length_8abf5 : rx_YV yJ0_length_8abf5 := ⟨(rx_g2 142 rfl rfl), (rx_g2 143 rfl rfl)⟩
set_option maxRecDepth 100000 in
theorem Y_J0_charAt_5068e : rx_Y yJ0_charAt_5068e cJ0_charAt_5068e 2 (some .char) 1 := ⟨(rx_g2 154 rfl rfl), (rx_g1 10 rfl rfl), (by decide +kernel), (by decide +kernel), (by decide +kernel)⟩
set_option maxRecDepth 100000 in
theorem V_J0_charAt_5068e : rx_YV yJ0_charAt_5068e := ⟨(rx_g2 152 rfl rfl), (rx_g2 153 rfl rfl)⟩
set_option maxRecDepth 100000 in
theorem Y_J0_coder_7d493 : rx_Y yJ0_coder_7d493 cJ0_coder_7d493 1 (some .byte) 0 := ⟨(rx_g2 148 rfl rfl), (rx_g1 10 rfl rfl), (by decide +kernel), (by decide +kernel), (by decide +kernel)⟩
set_option maxRecDepth 100000 in
theorem V_J0_coder_7d493 : rx_YV yJ0_coder_7d493 := ⟨(rx_g2 146 rfl rfl), (rx_g2 147 rfl rfl)⟩
set_option maxRecDepth 100000 in
theorem Y_J0_isLatin1_aae02 : rx_Y yJ0_isLatin1_aae02 cJ0_isLatin1_aae02 1 (some .boolean) 0 := ⟨(rx_g2 158 rfl rfl), (rx_g1 10 rfl rfl), (by decide +kernel), (by decide +kernel), (by decide +kernel)⟩
set_option maxRecDepth 100000 in
theorem V_J0_isLatin1_aae02 : rx_YV yJ0_isLatin1_aae02 := ⟨(rx_g2 156 rfl rfl), (rx_g2 157 rfl rfl)⟩
set_option maxRecDepth 100000 in
theorem Y_J0_checkIndex_df160 : rx_Y yJ0_checkIndex_df160 cJ0_checkIndex_df160 2 none 2 := ⟨(rx_g2 164 rfl rfl), (rx_g1 10 rfl rfl), (by decide +kernel), (by decide +kernel), (by decide +kernel)⟩
set_option maxRecDepth 100000 in
theorem S_J0_checkIndex_df160 : Cond.static yJ0_checkIndex_df160 ∈ rx_good := (rx_g2 163 rfl rfl)
set_option maxRecDepth 100000 in
theorem Y_J1_charAt_3b067 : rx_Y yJ1_charAt_3b067 cJ1_charAt_3b067 2 (some .char) 2 := ⟨(rx_g2 161 rfl rfl), (rx_g1 11 rfl rfl), (by decide +kernel), (by decide +kernel), (by decide +kernel)⟩
set_option maxRecDepth 100000 in
theorem S_J1_charAt_3b067 : Cond.static yJ1_charAt_3b067 ∈ rx_good := (rx_g2 160 rfl rfl)
set_option maxRecDepth 100000 in
theorem Y_J2_getChar_3b067 : rx_Y yJ2_getChar_3b067 cJ2_getChar_3b067 2 (some .char) 2 := ⟨(rx_g2 182 rfl rfl), (rx_g1 13 rfl rfl), (by decide +kernel), (by decide +kernel), (by decide +kernel)⟩
set_option maxRecDepth 100000 in
theorem S_J2_getChar_3b067 : Cond.static yJ2_getChar_3b067 ∈ rx_good := (rx_g2 181 rfl rfl)
set_option maxRecDepth 100000 in
theorem Y_J2_length_9d52b : rx_Y yJ2_length_9d52b cJ2_length_9d52b 1 (some .int) 1 := ⟨(rx_g2 178 rfl rfl), (rx_g1 13 rfl rfl), (by decide +kernel), (by decide +kernel), (by decide +kernel)⟩
set_option maxRecDepth 100000 in
theorem S_J2_length_9d52b : Cond.static yJ2_length_9d52b ∈ rx_good := (rx_g2 177 rfl rfl)
set_option maxRecDepth 100000 in
theorem Y_J2_charAt_3b067 : rx_Y yJ2_charAt_3b067 cJ2_charAt_3b067 2 (some .char) 2 := ⟨(rx_g2 172 rfl rfl), (rx_g1 13 rfl rfl), (by decide +kernel), (by decide +kernel), (by decide +kernel)⟩
set_option maxRecDepth 100000 in
theorem S_J2_charAt_3b067 : Cond.static yJ2_charAt_3b067 ∈ rx_good := (rx_g2 171 rfl rfl)
set_option maxRecDepth 100000 in
theorem Y_J2_checkIndex_2214a : rx_Y yJ2_checkIndex_2214a cJ2_checkIndex_2214a 2 none 2 := ⟨(rx_g2 175 rfl rfl), (rx_g1 13 rfl rfl), (by decide +kernel), (by decide +kernel), (by decide +kernel)⟩
set_option maxRecDepth 100000 in
theorem S_J2_checkIndex_2214a : Cond.static yJ2_checkIndex_2214a ∈ rx_good := (rx_g2 174 rfl rfl)
set_option maxRecDepth 100000 in
theorem Y_J3_checkIndex_8e157 : rx_Y yJ3_checkIndex_8e157 cJ3_checkIndex_8e157 3 (some .int) 3 := ⟨(rx_g2 169 rfl rfl), (rx_g1 12 rfl rfl), (by decide +kernel), (by decide +kernel), (by decide +kernel)⟩
set_option maxRecDepth 100000 in
theorem S_J3_checkIndex_8e157 : Cond.static yJ3_checkIndex_8e157 ∈ rx_good := (rx_g2 168 rfl rfl)
set_option maxRecDepth 100000 in
theorem Y_L_init : rx_Y yL_init cL_init 1 none 0 := ⟨(rx_g2 110 rfl rfl), (rx_g1 0 rfl rfl), (by decide +kernel), (by decide +kernel), (by decide +kernel)⟩
set_option maxRecDepth 100000 in
theorem I_L_init : Cond.instanceMethod yL_init ∈ rx_good := (rx_g2 109 rfl rfl)
set_option maxRecDepth 100000 in
theorem Y_L_writes : rx_Y yL_writes cL_writes 3 none 1 := ⟨(rx_g2 140 rfl rfl), (rx_g1 0 rfl rfl), (by decide +kernel), (by decide +kernel), (by decide +kernel)⟩
set_option maxRecDepth 100000 in
theorem V_L_writes : rx_YV yL_writes := ⟨(rx_g2 139 rfl rfl), (rx_g0 10 rfl rfl)⟩
set_option maxRecDepth 100000 in
theorem Y_L_sign : rx_Y yL_sign cL_sign 2 none 1 := ⟨(rx_g2 192 rfl rfl), (rx_g1 0 rfl rfl), (by decide +kernel), (by decide +kernel), (by decide +kernel)⟩
set_option maxRecDepth 100000 in
theorem V_L_sign : rx_YV yL_sign := ⟨(rx_g2 191 rfl rfl), (rx_g0 11 rfl rfl)⟩
set_option maxRecDepth 100000 in
theorem Y_L_number : rx_Y yL_number cL_number 3 none 1 := ⟨(rx_g2 196 rfl rfl), (rx_g1 0 rfl rfl), (by decide +kernel), (by decide +kernel), (by decide +kernel)⟩
set_option maxRecDepth 100000 in
theorem V_L_number : rx_YV yL_number := ⟨(rx_g2 195 rfl rfl), (rx_g0 12 rfl rfl)⟩
set_option maxRecDepth 100000 in
theorem Y_L_cell : rx_Y yL_cell cL_cell 2 (some .int) 2 := ⟨(rx_g2 130 rfl rfl), (rx_g1 0 rfl rfl), (by decide +kernel), (by decide +kernel), (by decide +kernel)⟩
set_option maxRecDepth 100000 in
theorem S_L_cell : Cond.static yL_cell ∈ rx_good := (rx_g2 129 rfl rfl)
set_option maxRecDepth 100000 in
theorem Y_L_feeds : rx_Y yL_feeds cL_feeds 4 (some .int) 1 := ⟨(rx_g2 208 rfl rfl), (rx_g1 0 rfl rfl), (by decide +kernel), (by decide +kernel), (by decide +kernel)⟩
set_option maxRecDepth 100000 in
theorem V_L_feeds : rx_YV yL_feeds := ⟨(rx_g2 207 rfl rfl), (rx_g0 13 rfl rfl)⟩
set_option maxRecDepth 100000 in
theorem Y_L_loads : rx_Y yL_loads cL_loads 7 (some .boolean) 2 := ⟨(rx_g2 135 rfl rfl), (rx_g1 0 rfl rfl), (by decide +kernel), (by decide +kernel), (by decide +kernel)⟩
set_option maxRecDepth 100000 in
theorem V_L_loads : rx_YV yL_loads := ⟨(rx_g2 134 rfl rfl), (rx_g0 9 rfl rfl)⟩
set_option maxRecDepth 100000 in
theorem Y_L_king : rx_Y yL_king cL_king 4 (some .int) 2 := ⟨(rx_g3 173 rfl rfl), (rx_g1 0 rfl rfl), (by decide +kernel), (by decide +kernel), (by decide +kernel)⟩
set_option maxRecDepth 100000 in
theorem V_L_king : rx_YV yL_king := ⟨(rx_g3 172 rfl rfl), (rx_g0 32 rfl rfl)⟩
set_option maxRecDepth 100000 in
theorem Y_L_acts : rx_Y yL_acts cL_acts 7 (some .boolean) 2 := ⟨(rx_g3 169 rfl rfl), (rx_g1 0 rfl rfl), (by decide +kernel), (by decide +kernel), (by decide +kernel)⟩
set_option maxRecDepth 100000 in
theorem V_L_acts : rx_YV yL_acts := ⟨(rx_g3 168 rfl rfl), (rx_g0 31 rfl rfl)⟩
set_option maxRecDepth 100000 in
theorem Y_L_coins : rx_Y yL_coins cL_coins 4 (some .int) 1 := ⟨(rx_g4 229 rfl rfl), (rx_g1 0 rfl rfl), (by decide +kernel), (by decide +kernel), (by decide +kernel)⟩
set_option maxRecDepth 100000 in
theorem V_L_coins : rx_YV yL_coins := ⟨(rx_g4 228 rfl rfl), (rx_g0 69 rfl rfl)⟩
set_option maxRecDepth 100000 in
theorem Y_L_crossed : rx_Y yL_crossed cL_crossed 4 (some .int) 1 := ⟨(rx_g4 233 rfl rfl), (rx_g1 0 rfl rfl), (by decide +kernel), (by decide +kernel), (by decide +kernel)⟩
set_option maxRecDepth 100000 in
theorem V_L_crossed : rx_YV yL_crossed := ⟨(rx_g4 232 rfl rfl), (rx_g0 70 rfl rfl)⟩
set_option maxRecDepth 100000 in
theorem Y_L_isWell : rx_Y yL_isWell cL_isWell 8 (some .boolean) 1 := ⟨(rx_g5 1 rfl rfl), (rx_g1 0 rfl rfl), (by decide +kernel), (by decide +kernel), (by decide +kernel)⟩
set_option maxRecDepth 100000 in
theorem V_L_isWell : rx_YV yL_isWell := ⟨(rx_g5 0 rfl rfl), (rx_g0 71 rfl rfl)⟩
set_option maxRecDepth 100000 in
theorem Y_L_isOrdered : rx_Y yL_isOrdered cL_isOrdered 6 (some .boolean) 2 := ⟨(rx_g5 42 rfl rfl), (rx_g1 0 rfl rfl), (by decide +kernel), (by decide +kernel), (by decide +kernel)⟩
set_option maxRecDepth 100000 in
theorem V_L_isOrdered : rx_YV yL_isOrdered := ⟨(rx_g5 41 rfl rfl), (rx_g0 75 rfl rfl)⟩
set_option maxRecDepth 100000 in
theorem m_L_149 : Cond.methodLink RL 149 yX8_init ∈ rx_good := (rx_g1 25 rfl rfl)
set_option maxRecDepth 100000 in
theorem m_X8_9 : Cond.methodLinkNest RX8 9 yX6_init "BeggarKings" ∈ rx_nest := (rx_n1 33 rfl rfl)
set_option maxRecDepth 100000 in
theorem m_X8_18 : Cond.methodLinkNest RX8 18 yX5_init "BeggarKings" ∈ rx_nest := (rx_n1 71 rfl rfl)
set_option maxRecDepth 100000 in
theorem m_X8_28 : Cond.methodLinkNest RX8 28 yX2_init "BeggarKings" ∈ rx_nest := (rx_n1 132 rfl rfl)
set_option maxRecDepth 100000 in
theorem m_X2_41 : Cond.methodLinkNest RX2 41 yX3_init "BeggarKings" ∈ rx_nest := (rx_n1 138 rfl rfl)
set_option maxRecDepth 100000 in
theorem m_X8_43 : Cond.methodLinkNest RX8 43 yX1_init "BeggarKings" ∈ rx_nest := (rx_n1 212 rfl rfl)
set_option maxRecDepth 100000 in
theorem m_X1_17 : Cond.methodLinkNest RX1 17 yX2_init "BeggarKings" ∈ rx_nest := (rx_n1 218 rfl rfl)
set_option maxRecDepth 100000 in
theorem m_X8_50 : Cond.methodLinkNest RX8 50 yX4_init "BeggarKings" ∈ rx_nest := (rx_n1 231 rfl rfl)
set_option maxRecDepth 100000 in
theorem m_X8_59 : Cond.methodLinkNest RX8 59 yX5_begin "BeggarKings" ∈ rx_nest := (rx_n2 9 rfl rfl)
set_option maxRecDepth 100000 in
theorem m_X8_63 : Cond.methodLinkNest RX8 63 yX5_addPerson "BeggarKings" ∈ rx_nest := (rx_n2 13 rfl rfl)
set_option maxRecDepth 100000 in
theorem m_X5_55 : Cond.methodLinkNest RX5 55 yX8_put "BeggarKings" ∈ rx_nest := (rx_n2 17 rfl rfl)
set_option maxRecDepth 100000 in
theorem m_X8_67 : Cond.methodLinkNest RX8 67 yX5_addBridge "BeggarKings" ∈ rx_nest := (rx_n2 20 rfl rfl)
set_option maxRecDepth 100000 in
theorem m_X8_71 : Cond.methodLinkNest RX8 71 yX2_begin "BeggarKings" ∈ rx_nest := (rx_n2 24 rfl rfl)
set_option maxRecDepth 100000 in
theorem m_X2_66 : Cond.methodLinkNest RX2 66 yX8_put "BeggarKings" ∈ rx_nest := (rx_n2 28 rfl rfl)
set_option maxRecDepth 100000 in
theorem m_X2_74 : Cond.methodLinkNest RX2 74 yX8_copyRow "BeggarKings" ∈ rx_nest := (rx_n2 29 rfl rfl)
set_option maxRecDepth 100000 in
theorem m_X8_408 : Cond.methodLink RX8 408 yJ9_min_7cf53 ∈ rx_good := (rx_g2 32 rfl rfl)
set_option maxRecDepth 100000 in
theorem m_X2_80 : Cond.methodLinkNest RX2 80 yX5_hasKing "BeggarKings" ∈ rx_nest := (rx_n2 38 rfl rfl)
set_option maxRecDepth 100000 in
theorem m_X5_63 : Cond.methodLink RX5 63 yX5_hasPerson ∈ rx_good := (rx_g2 42 rfl rfl)
set_option maxRecDepth 100000 in
theorem m_X5_67 : Cond.methodLinkNest RX5 67 yX8_at "BeggarKings" ∈ rx_nest := (rx_n2 46 rfl rfl)
set_option maxRecDepth 100000 in
theorem m_L_156 : Cond.methodLink RL 156 yX8_countedRoyalCoins ∈ rx_good := (rx_g2 82 rfl rfl)
set_option maxRecDepth 100000 in
theorem m_X8_226 : Cond.methodLinkNest RX8 226 yX2_countedInAll "BeggarKings" ∈ rx_nest := (rx_n2 86 rfl rfl)
set_option maxRecDepth 100000 in
theorem m_X2_91 : Cond.methodLinkNest RX2 91 yX8_at "BeggarKings" ∈ rx_nest := (rx_n2 90 rfl rfl)
set_option maxRecDepth 100000 in
theorem m_L_166 : Cond.methodLink RL 166 yX8_coinGap ∈ rx_good := (rx_g2 91 rfl rfl)
set_option maxRecDepth 100000 in
theorem m_X8_279 : Cond.methodLinkNest RX8 279 yX2_coinsInAll "BeggarKings" ∈ rx_nest := (rx_n2 95 rfl rfl)
set_option maxRecDepth 100000 in
theorem m_X8_282 : Cond.methodLinkNest RX8 282 yX5_coinsInAll "BeggarKings" ∈ rx_nest := (rx_n2 99 rfl rfl)
set_option maxRecDepth 100000 in
theorem m_X8_283 : Cond.methodLink RX8 283 yJ9_abs_0f7a4 ∈ rx_good := (rx_g2 103 rfl rfl)
set_option maxRecDepth 100000 in
theorem m_L_148 : Cond.methodLink RL 148 yL_init ∈ rx_good := (rx_g2 108 rfl rfl)
set_option maxRecDepth 100000 in
theorem m_L_41 : Cond.methodLink RL 41 yL_cell ∈ rx_good := (rx_g2 128 rfl rfl)
set_option maxRecDepth 100000 in
theorem m_L_150 : Cond.methodLink RL 150 yL_loads ∈ rx_good := (rx_g2 132 rfl rfl)
set_option maxRecDepth 100000 in
theorem m_L_53 : Cond.methodLink RL 53 yL_writes ∈ rx_good := (rx_g2 137 rfl rfl)
set_option maxRecDepth 100000 in
theorem m_L_16 : Cond.methodLink RL 16 yJ0_length_8abf5 ∈ rx_good := (rx_g2 141 rfl rfl)
set_option maxRecDepth 100000 in
theorem m_J0_335 : Cond.methodLink RJ0 335 yJ0_coder_7d493 ∈ rx_good := (rx_g2 145 rfl rfl)
set_option maxRecDepth 100000 in
theorem m_L_22 : Cond.methodLink RL 22 yJ0_charAt_5068e ∈ rx_good := (rx_g2 151 rfl rfl)
set_option maxRecDepth 100000 in
theorem m_J0_492 : Cond.methodLink RJ0 492 yJ0_isLatin1_aae02 ∈ rx_good := (rx_g2 155 rfl rfl)
set_option maxRecDepth 100000 in
theorem m_J0_495 : Cond.methodLink RJ0 495 yJ1_charAt_3b067 ∈ rx_good := (rx_g2 159 rfl rfl)
set_option maxRecDepth 100000 in
theorem m_J1_9 : Cond.methodLink RJ1 9 yJ0_checkIndex_df160 ∈ rx_good := (rx_g2 162 rfl rfl)
set_option maxRecDepth 100000 in
theorem m_J0_1059 : Cond.methodLink RJ0 1059 yJ3_checkIndex_8e157 ∈ rx_good := (rx_g2 167 rfl rfl)
set_option maxRecDepth 100000 in
theorem m_J0_498 : Cond.methodLink RJ0 498 yJ2_charAt_3b067 ∈ rx_good := (rx_g2 170 rfl rfl)
set_option maxRecDepth 100000 in
theorem m_J2_67 : Cond.methodLink RJ2 67 yJ2_checkIndex_2214a ∈ rx_good := (rx_g2 173 rfl rfl)
set_option maxRecDepth 100000 in
theorem m_J2_48 : Cond.methodLink RJ2 48 yJ2_length_9d52b ∈ rx_good := (rx_g2 176 rfl rfl)
set_option maxRecDepth 100000 in
theorem m_J2_414 : Cond.methodLink RJ2 414 yJ0_checkIndex_df160 ∈ rx_good := (rx_g2 179 rfl rfl)
set_option maxRecDepth 100000 in
theorem m_J2_71 : Cond.methodLink RJ2 71 yJ2_getChar_3b067 ∈ rx_good := (rx_g2 180 rfl rfl)
set_option maxRecDepth 100000 in
theorem m_L_26 : Cond.methodLink RL 26 yL_sign ∈ rx_good := (rx_g2 189 rfl rfl)
set_option maxRecDepth 100000 in
theorem m_L_57 : Cond.methodLink RL 57 yL_number ∈ rx_good := (rx_g2 193 rfl rfl)
set_option maxRecDepth 100000 in
theorem m_L_74 : Cond.methodLink RL 74 yL_feeds ∈ rx_good := (rx_g2 205 rfl rfl)
set_option maxRecDepth 100000 in
theorem m_L_35 : Cond.methodLink RL 35 yX8_appendText ∈ rx_good := (rx_g2 209 rfl rfl)
set_option maxRecDepth 100000 in
theorem m_X8_77 : Cond.methodLinkNest RX8 77 yX6_appendWord "BeggarKings" ∈ rx_nest := (rx_n2 213 rfl rfl)
set_option maxRecDepth 100000 in
theorem m_X6_22 : Cond.methodLinkNest RX6 22 yX8_put "BeggarKings" ∈ rx_nest := (rx_n2 217 rfl rfl)
set_option maxRecDepth 100000 in
theorem m_L_78 : Cond.methodLink RL 78 yX8_loadGame ∈ rx_good := (rx_g2 218 rfl rfl)
set_option maxRecDepth 100000 in
theorem m_X8_81 : Cond.methodLink RX8 81 yX8_requireLength ∈ rx_good := (rx_g2 222 rfl rfl)
set_option maxRecDepth 100000 in
theorem m_X8_84 : Cond.methodLinkNest RX8 84 yX6_open "BeggarKings" ∈ rx_nest := (rx_n3 54 rfl rfl)
set_option maxRecDepth 100000 in
theorem m_X6_35 : Cond.methodLink RX6 35 yX6_advance ∈ rx_good := (rx_g3 58 rfl rfl)
set_option maxRecDepth 100000 in
theorem m_X6_50 : Cond.methodLinkNest RX6 50 yX8_at "BeggarKings" ∈ rx_nest := (rx_n3 62 rfl rfl)
set_option maxRecDepth 100000 in
theorem m_X6_69 : Cond.methodLink RX6 69 yX6_isBlank ∈ rx_good := (rx_g3 63 rfl rfl)
set_option maxRecDepth 100000 in
theorem m_X6_73 : Cond.methodLink RX6 73 yX6_isLetter ∈ rx_good := (rx_g3 66 rfl rfl)
set_option maxRecDepth 100000 in
theorem m_X6_76 : Cond.methodLink RX6 76 yX6_scanWord ∈ rx_good := (rx_g3 69 rfl rfl)
set_option maxRecDepth 100000 in
theorem m_X6_79 : Cond.methodLink RX6 79 yX6_isDigit ∈ rx_good := (rx_g3 73 rfl rfl)
set_option maxRecDepth 100000 in
theorem m_X6_82 : Cond.methodLink RX6 82 yX6_scanNumber ∈ rx_good := (rx_g3 76 rfl rfl)
set_option maxRecDepth 100000 in
theorem m_X6_85 : Cond.methodLink RX6 85 yJ9_min_7cf53 ∈ rx_good := (rx_g3 80 rfl rfl)
set_option maxRecDepth 100000 in
theorem m_X8_87 : Cond.methodLink RX8 87 yX8_readHeader ∈ rx_good := (rx_g3 81 rfl rfl)
set_option maxRecDepth 100000 in
theorem m_X8_419 : Cond.methodLinkNest RX8 419 yX6_takeWord "BeggarKings" ∈ rx_nest := (rx_n3 85 rfl rfl)
set_option maxRecDepth 100000 in
theorem m_X6_58 : Cond.methodLink RX6 58 yX6_isAtWord ∈ rx_good := (rx_g3 89 rfl rfl)
set_option maxRecDepth 100000 in
theorem m_X6_44 : Cond.methodLink RX6 44 yJ0_length_8abf5 ∈ rx_good := (rx_g3 93 rfl rfl)
set_option maxRecDepth 100000 in
theorem m_X6_54 : Cond.methodLink RX6 54 yJ0_charAt_5068e ∈ rx_good := (rx_g3 94 rfl rfl)
set_option maxRecDepth 100000 in
theorem m_X6_62 : Cond.methodLink RX6 62 yX6_fail ∈ rx_good := (rx_g3 95 rfl rfl)
set_option maxRecDepth 100000 in
theorem m_X8_422 : Cond.methodLinkNest RX8 422 yX6_takeNumber "BeggarKings" ∈ rx_nest := (rx_n3 99 rfl rfl)
set_option maxRecDepth 100000 in
theorem m_X8_425 : Cond.methodLinkNest RX8 425 yX6_takeSemicolon "BeggarKings" ∈ rx_nest := (rx_n3 103 rfl rfl)
set_option maxRecDepth 100000 in
theorem m_X8_91 : Cond.methodLink RX8 91 yX8_readPeople ∈ rx_good := (rx_g3 107 rfl rfl)
set_option maxRecDepth 100000 in
theorem m_X8_428 : Cond.methodLink RX8 428 yX8_isAtPerson ∈ rx_good := (rx_g3 110 rfl rfl)
set_option maxRecDepth 100000 in
theorem m_X8_440 : Cond.methodLinkNest RX8 440 yX6_isAtWord "BeggarKings" ∈ rx_nest := (rx_n3 114 rfl rfl)
set_option maxRecDepth 100000 in
theorem m_X8_432 : Cond.methodLinkNest RX8 432 yX6_fail "BeggarKings" ∈ rx_nest := (rx_n3 116 rfl rfl)
set_option maxRecDepth 100000 in
theorem m_X8_435 : Cond.methodLink RX8 435 yX8_readPerson ∈ rx_good := (rx_g3 117 rfl rfl)
set_option maxRecDepth 100000 in
theorem m_X8_446 : Cond.methodLinkNest RX8 446 yX6_takeEither "BeggarKings" ∈ rx_nest := (rx_n3 120 rfl rfl)
set_option maxRecDepth 100000 in
theorem m_X8_94 : Cond.methodLink RX8 94 yX8_readBridges ∈ rx_good := (rx_g3 126 rfl rfl)
set_option maxRecDepth 100000 in
theorem m_X8_456 : Cond.methodLink RX8 456 yX8_readBridge ∈ rx_good := (rx_g3 130 rfl rfl)
set_option maxRecDepth 100000 in
theorem m_X8_459 : Cond.methodLinkNest RX8 459 yX6_isAtEnd "BeggarKings" ∈ rx_nest := (rx_n3 133 rfl rfl)
set_option maxRecDepth 100000 in
theorem m_X8_97 : Cond.methodLinkNest RX8 97 yX6_hasFailed "BeggarKings" ∈ rx_nest := (rx_n3 137 rfl rfl)
set_option maxRecDepth 100000 in
theorem m_X8_101 : Cond.methodLinkNest RX8 101 yX5_copyFrom "BeggarKings" ∈ rx_nest := (rx_n3 141 rfl rfl)
set_option maxRecDepth 100000 in
theorem m_X5_59 : Cond.methodLinkNest RX5 59 yX8_copyRow "BeggarKings" ∈ rx_nest := (rx_n3 145 rfl rfl)
set_option maxRecDepth 100000 in
theorem m_X8_104 : Cond.methodLinkNest RX8 104 yX1_clear "BeggarKings" ∈ rx_nest := (rx_n3 146 rfl rfl)
set_option maxRecDepth 100000 in
theorem m_L_82 : Cond.methodLink RL 82 yX8_errorCode ∈ rx_good := (rx_g3 150 rfl rfl)
set_option maxRecDepth 100000 in
theorem m_L_85 : Cond.methodLink RL 85 yX8_errorOffset ∈ rx_good := (rx_g3 154 rfl rfl)
set_option maxRecDepth 100000 in
theorem m_L_88 : Cond.methodLink RL 88 yX8_turn ∈ rx_good := (rx_g3 158 rfl rfl)
set_option maxRecDepth 100000 in
theorem m_L_91 : Cond.methodLink RL 91 yX8_tollBox ∈ rx_good := (rx_g3 162 rfl rfl)
set_option maxRecDepth 100000 in
theorem m_L_162 : Cond.methodLink RL 162 yL_acts ∈ rx_good := (rx_g3 166 rfl rfl)
set_option maxRecDepth 100000 in
theorem m_L_98 : Cond.methodLink RL 98 yL_king ∈ rx_good := (rx_g3 170 rfl rfl)
set_option maxRecDepth 100000 in
theorem m_L_94 : Cond.methodLink RL 94 yX8_isKing ∈ rx_good := (rx_g3 174 rfl rfl)
set_option maxRecDepth 100000 in
theorem m_X8_148 : Cond.methodLink RX8 148 yX8_requirePerson ∈ rx_good := (rx_g3 178 rfl rfl)
set_option maxRecDepth 100000 in
theorem m_X8_385 : Cond.methodLinkNest RX8 385 yX5_hasPerson "BeggarKings" ∈ rx_nest := (rx_n3 182 rfl rfl)
set_option maxRecDepth 100000 in
theorem m_X8_151 : Cond.methodLinkNest RX8 151 yX5_hasKing "BeggarKings" ∈ rx_nest := (rx_n3 199 rfl rfl)
set_option maxRecDepth 100000 in
theorem m_L_101 : Cond.methodLink RL 101 yX8_coins ∈ rx_good := (rx_g3 200 rfl rfl)
set_option maxRecDepth 100000 in
theorem m_X8_136 : Cond.methodLink RX8 136 yX8_at ∈ rx_good := (rx_g3 204 rfl rfl)
set_option maxRecDepth 100000 in
theorem m_L_104 : Cond.methodLink RL 104 yX8_dropCoins ∈ rx_good := (rx_g3 205 rfl rfl)
set_option maxRecDepth 100000 in
theorem m_X8_292 : Cond.methodLink RX8 292 yX8_allow ∈ rx_good := (rx_g3 211 rfl rfl)
set_option maxRecDepth 100000 in
theorem m_X8_396 : Cond.methodLinkNest RX8 396 yX2_faultOf "BeggarKings" ∈ rx_nest := (rx_n3 215 rfl rfl)
set_option maxRecDepth 100000 in
theorem m_X2_184 : Cond.methodLinkNest RX2 184 yX5_hasPerson "BeggarKings" ∈ rx_nest := (rx_n3 219 rfl rfl)
set_option maxRecDepth 100000 in
theorem m_X2_187 : Cond.methodLink RX2 187 yX2_isSound ∈ rx_good := (rx_g3 220 rfl rfl)
set_option maxRecDepth 100000 in
theorem m_X2_202 : Cond.methodLinkNest RX2 202 yX7_allows "BeggarKings" ∈ rx_nest := (rx_n3 232 rfl rfl)
set_option maxRecDepth 100000 in
theorem m_X2_191 : Cond.methodLink RX2 191 yX2_isPossible ∈ rx_good := (rx_g3 237 rfl rfl)
set_option maxRecDepth 100000 in
theorem m_X2_205 : Cond.methodLink RX2 205 yX2_offerOf ∈ rx_good := (rx_g4 1 rfl rfl)
set_option maxRecDepth 100000 in
theorem m_X2_122 : Cond.methodLink RX2 122 yX2_queueOn ∈ rx_good := (rx_g4 5 rfl rfl)
set_option maxRecDepth 100000 in
theorem m_X2_126 : Cond.methodLinkNest RX2 126 yX3_placeOf "BeggarKings" ∈ rx_nest := (rx_n4 9 rfl rfl)
set_option maxRecDepth 100000 in
theorem m_X3_26 : Cond.methodLinkNest RX3 26 yX8_at "BeggarKings" ∈ rx_nest := (rx_n4 13 rfl rfl)
set_option maxRecDepth 100000 in
theorem m_X2_129 : Cond.methodLinkNest RX2 129 yX3_offerAt "BeggarKings" ∈ rx_nest := (rx_n4 14 rfl rfl)
set_option maxRecDepth 100000 in
theorem m_X8_351 : Cond.methodLinkNest RX8 351 yX1_push "BeggarKings" ∈ rx_nest := (rx_n4 35 rfl rfl)
set_option maxRecDepth 100000 in
theorem m_X1_27 : Cond.methodLinkNest RX1 27 yX2_copyFrom "BeggarKings" ∈ rx_nest := (rx_n4 39 rfl rfl)
set_option maxRecDepth 100000 in
theorem m_X2_84 : Cond.methodLinkNest RX2 84 yX3_copyFrom "BeggarKings" ∈ rx_nest := (rx_n4 43 rfl rfl)
set_option maxRecDepth 100000 in
theorem m_X3_22 : Cond.methodLinkNest RX3 22 yX8_copyRow "BeggarKings" ∈ rx_nest := (rx_n4 47 rfl rfl)
set_option maxRecDepth 100000 in
theorem m_X1_31 : Cond.methodLink RX1 31 yJ9_min_7cf53 ∈ rx_good := (rx_g4 48 rfl rfl)
set_option maxRecDepth 100000 in
theorem m_X8_296 : Cond.methodLinkNest RX8 296 yX2_drop "BeggarKings" ∈ rx_nest := (rx_n4 49 rfl rfl)
set_option maxRecDepth 100000 in
theorem m_X2_160 : Cond.methodLinkNest RX2 160 yX8_add "BeggarKings" ∈ rx_nest := (rx_n4 53 rfl rfl)
set_option maxRecDepth 100000 in
theorem m_X8_404 : Cond.methodLink RX8 404 yX8_put ∈ rx_good := (rx_g4 56 rfl rfl)
set_option maxRecDepth 100000 in
theorem m_L_108 : Cond.methodLink RL 108 yX8_isEast ∈ rx_good := (rx_g4 57 rfl rfl)
set_option maxRecDepth 100000 in
theorem m_L_111 : Cond.methodLink RL 111 yX8_groundCoins ∈ rx_good := (rx_g4 61 rfl rfl)
set_option maxRecDepth 100000 in
theorem m_X8_132 : Cond.methodLink RX8 132 yX8_bankOf ∈ rx_good := (rx_g4 65 rfl rfl)
set_option maxRecDepth 100000 in
theorem m_L_115 : Cond.methodLink RL 115 yX8_pickCoins ∈ rx_good := (rx_g4 68 rfl rfl)
set_option maxRecDepth 100000 in
theorem m_X8_302 : Cond.methodLinkNest RX8 302 yX2_pick "BeggarKings" ∈ rx_nest := (rx_n4 74 rfl rfl)
set_option maxRecDepth 100000 in
theorem m_L_118 : Cond.methodLink RL 118 yX8_royalHolder ∈ rx_good := (rx_g4 78 rfl rfl)
set_option maxRecDepth 100000 in
theorem m_X8_211 : Cond.methodLink RX8 211 yX8_requireKing ∈ rx_good := (rx_g4 82 rfl rfl)
set_option maxRecDepth 100000 in
theorem m_L_121 : Cond.methodLink RL 121 yX8_layRoyalCoin ∈ rx_good := (rx_g4 87 rfl rfl)
set_option maxRecDepth 100000 in
theorem m_X8_308 : Cond.methodLinkNest RX8 308 yX2_lay "BeggarKings" ∈ rx_nest := (rx_n4 93 rfl rfl)
set_option maxRecDepth 100000 in
theorem m_X2_235 : Cond.methodLink RX2 235 yX2_royalCoinsOf ∈ rx_good := (rx_g4 97 rfl rfl)
set_option maxRecDepth 100000 in
theorem m_L_124 : Cond.methodLink RL 124 yX8_isRoyalCoinEast ∈ rx_good := (rx_g4 101 rfl rfl)
set_option maxRecDepth 100000 in
theorem m_X8_217 : Cond.methodLinkNest RX8 217 yX2_royalCoinBank "BeggarKings" ∈ rx_nest := (rx_n4 105 rfl rfl)
set_option maxRecDepth 100000 in
theorem m_L_127 : Cond.methodLink RL 127 yX8_liftRoyalCoin ∈ rx_good := (rx_g4 109 rfl rfl)
set_option maxRecDepth 100000 in
theorem m_X8_314 : Cond.methodLinkNest RX8 314 yX2_lift "BeggarKings" ∈ rx_nest := (rx_n4 115 rfl rfl)
set_option maxRecDepth 100000 in
theorem m_L_130 : Cond.methodLink RL 130 yX8_swapRags ∈ rx_good := (rx_g4 119 rfl rfl)
set_option maxRecDepth 100000 in
theorem m_X8_320 : Cond.methodLinkNest RX8 320 yX2_swap "BeggarKings" ∈ rx_nest := (rx_n4 125 rfl rfl)
set_option maxRecDepth 100000 in
theorem m_L_133 : Cond.methodLink RL 133 yX8_offer ∈ rx_good := (rx_g4 129 rfl rfl)
set_option maxRecDepth 100000 in
theorem m_X8_241 : Cond.methodLinkNest RX8 241 yX2_offerOf "BeggarKings" ∈ rx_nest := (rx_n4 133 rfl rfl)
set_option maxRecDepth 100000 in
theorem m_L_136 : Cond.methodLink RL 136 yX8_joinQueue ∈ rx_good := (rx_g4 134 rfl rfl)
set_option maxRecDepth 100000 in
theorem m_X8_326 : Cond.methodLinkNest RX8 326 yX2_join "BeggarKings" ∈ rx_nest := (rx_n4 140 rfl rfl)
set_option maxRecDepth 100000 in
theorem m_X2_238 : Cond.methodLinkNest RX2 238 yX3_insert "BeggarKings" ∈ rx_nest := (rx_n4 144 rfl rfl)
set_option maxRecDepth 100000 in
theorem m_X3_30 : Cond.methodLinkNest RX3 30 yX8_put "BeggarKings" ∈ rx_nest := (rx_n4 148 rfl rfl)
set_option maxRecDepth 100000 in
theorem m_L_139 : Cond.methodLink RL 139 yX8_quitQueue ∈ rx_good := (rx_g4 149 rfl rfl)
set_option maxRecDepth 100000 in
theorem m_X8_332 : Cond.methodLinkNest RX8 332 yX2_quit "BeggarKings" ∈ rx_nest := (rx_n4 155 rfl rfl)
set_option maxRecDepth 100000 in
theorem m_X2_156 : Cond.methodLinkNest RX2 156 yX3_removeAt "BeggarKings" ∈ rx_nest := (rx_n4 159 rfl rfl)
set_option maxRecDepth 100000 in
theorem m_L_142 : Cond.methodLink RL 142 yX8_setPride ∈ rx_good := (rx_g4 163 rfl rfl)
set_option maxRecDepth 100000 in
theorem m_X8_338 : Cond.methodLinkNest RX8 338 yX2_changePride "BeggarKings" ∈ rx_nest := (rx_n4 169 rfl rfl)
set_option maxRecDepth 100000 in
theorem m_L_145 : Cond.methodLink RL 145 yX8_passTurns ∈ rx_good := (rx_g4 173 rfl rfl)
set_option maxRecDepth 100000 in
theorem m_X8_344 : Cond.methodLinkNest RX8 344 yX2_passSeveral "BeggarKings" ∈ rx_nest := (rx_n4 179 rfl rfl)
set_option maxRecDepth 100000 in
theorem m_X2_132 : Cond.methodLink RX2 132 yX2_passTurn ∈ rx_good := (rx_g4 183 rfl rfl)
set_option maxRecDepth 100000 in
theorem m_X2_136 : Cond.methodLink RX2 136 yX2_departureBank ∈ rx_good := (rx_g4 187 rfl rfl)
set_option maxRecDepth 100000 in
theorem m_X2_142 : Cond.methodLinkNest RX2 142 yX5_opens "BeggarKings" ∈ rx_nest := (rx_n4 191 rfl rfl)
set_option maxRecDepth 100000 in
theorem m_X2_149 : Cond.methodLink RX2 149 yX2_letFirstTry ∈ rx_good := (rx_g4 195 rfl rfl)
set_option maxRecDepth 100000 in
theorem m_X2_153 : Cond.methodLinkNest RX2 153 yX3_personAt "BeggarKings" ∈ rx_nest := (rx_n4 199 rfl rfl)
set_option maxRecDepth 100000 in
theorem m_X2_105 : Cond.methodLink RX2 105 yX2_keeperAngleIn ∈ rx_good := (rx_g4 203 rfl rfl)
set_option maxRecDepth 100000 in
theorem m_X2_101 : Cond.methodLink RX2 101 yX2_angleOf ∈ rx_good := (rx_g4 207 rfl rfl)
set_option maxRecDepth 100000 in
theorem m_X2_111 : Cond.methodLinkNest RX2 111 yX5_tollFor "BeggarKings" ∈ rx_nest := (rx_n4 210 rfl rfl)
set_option maxRecDepth 100000 in
theorem m_X2_163 : Cond.methodLink RX2 163 yX2_countRoyalCoinsOf ∈ rx_good := (rx_g4 214 rfl rfl)
set_option maxRecDepth 100000 in
theorem m_X2_166 : Cond.methodLink RX2 166 yX2_learn ∈ rx_good := (rx_g4 218 rfl rfl)
set_option maxRecDepth 100000 in
theorem m_X2_173 : Cond.methodLink RX2 173 yJ9_max_7cf53 ∈ rx_good := (rx_g4 222 rfl rfl)
set_option maxRecDepth 100000 in
theorem m_X2_178 : Cond.methodLink RX2 178 yJ9_min_7cf53 ∈ rx_good := (rx_g4 225 rfl rfl)
set_option maxRecDepth 100000 in
theorem m_L_154 : Cond.methodLink RL 154 yL_coins ∈ rx_good := (rx_g4 226 rfl rfl)
set_option maxRecDepth 100000 in
theorem m_L_159 : Cond.methodLink RL 159 yL_crossed ∈ rx_good := (rx_g4 230 rfl rfl)
set_option maxRecDepth 100000 in
theorem m_L_173 : Cond.methodLink RL 173 yX8_crossings ∈ rx_good := (rx_g4 234 rfl rfl)
set_option maxRecDepth 100000 in
theorem m_L_169 : Cond.methodLink RL 169 yL_isWell ∈ rx_good := (rx_g4 238 rfl rfl)
set_option maxRecDepth 100000 in
theorem m_L_176 : Cond.methodLink RL 176 yX8_rags ∈ rx_good := (rx_g5 2 rfl rfl)
set_option maxRecDepth 100000 in
theorem m_L_179 : Cond.methodLink RL 179 yX8_wearer ∈ rx_good := (rx_g5 6 rfl rfl)
set_option maxRecDepth 100000 in
theorem m_X8_170 : Cond.methodLinkNest RX8 170 yX2_wearerOf "BeggarKings" ∈ rx_nest := (rx_n5 10 rfl rfl)
set_option maxRecDepth 100000 in
theorem m_L_182 : Cond.methodLink RL 182 yX8_royalCoins ∈ rx_good := (rx_g5 14 rfl rfl)
set_option maxRecDepth 100000 in
theorem m_X8_223 : Cond.methodLinkNest RX8 223 yX2_royalCoinsOf "BeggarKings" ∈ rx_nest := (rx_n5 18 rfl rfl)
set_option maxRecDepth 100000 in
theorem m_L_185 : Cond.methodLink RL 185 yX8_isCounted ∈ rx_good := (rx_g5 19 rfl rfl)
set_option maxRecDepth 100000 in
theorem m_L_188 : Cond.methodLink RL 188 yX8_kingCount ∈ rx_good := (rx_g5 23 rfl rfl)
set_option maxRecDepth 100000 in
theorem m_X8_140 : Cond.methodLinkNest RX8 140 yX5_kingsInAll "BeggarKings" ∈ rx_nest := (rx_n5 27 rfl rfl)
set_option maxRecDepth 100000 in
theorem m_L_191 : Cond.methodLink RL 191 yX8_bankCount ∈ rx_good := (rx_g5 31 rfl rfl)
set_option maxRecDepth 100000 in
theorem m_X8_144 : Cond.methodLinkNest RX8 144 yX2_peopleOn "BeggarKings" ∈ rx_nest := (rx_n5 35 rfl rfl)
set_option maxRecDepth 100000 in
theorem m_L_194 : Cond.methodLink RL 194 yL_isOrdered ∈ rx_good := (rx_g5 39 rfl rfl)
set_option maxRecDepth 100000 in
theorem m_L_201 : Cond.methodLink RL 201 yX8_queueLength ∈ rx_good := (rx_g5 43 rfl rfl)
set_option maxRecDepth 100000 in
theorem m_X8_229 : Cond.methodLinkNest RX8 229 yX2_queueOn "BeggarKings" ∈ rx_nest := (rx_n5 47 rfl rfl)
set_option maxRecDepth 100000 in
theorem m_L_204 : Cond.methodLink RL 204 yX8_queued ∈ rx_good := (rx_g5 48 rfl rfl)
set_option maxRecDepth 100000 in
theorem m_X8_238 : Cond.methodLinkNest RX8 238 yX3_personAt "BeggarKings" ∈ rx_nest := (rx_n5 52 rfl rfl)
set_option maxRecDepth 100000 in
theorem m_L_198 : Cond.methodLink RL 198 yX8_limitAngle ∈ rx_good := (rx_g5 53 rfl rfl)
end
section
/-- the texts of the String constants, and where they stand -/
def rx_len : List Nat := [4, 1, 4, 6, 5, 5, 6, 14, 4, 4, 14, 20, 16, 10]
def rx_byt : List (List Int32) := [[103, 97, 109, 101], [59], [107, 105, 110, 103], [98, 101, 103, 103, 97, 114], [32, 101, 97, 115, 116], [32, 119, 101, 115, 116], [98, 114, 105, 100, 103, 101], [110, 111, 32, 115, 117, 99, 104, 32, 108, 101, 110, 103, 116, 104], [119, 101, 115, 116], [101, 97, 115, 116], [110, 111, 32, 115, 117, 99, 104, 32, 112, 101, 114, 115, 111, 110], [97, 114, 103, 117, 109, 101, 110, 116, 32, 110, 111, 116, 32, 97, 108, 108, 111, 119, 101, 100], [110, 111, 116, 32, 112, 111, 115, 115, 105, 98, 108, 101, 32, 110, 111, 119], [110, 111, 116, 32, 97, 32, 107, 105, 110, 103]]
def rx_sr : List (String × Nat × String × Nat) := [("BeggarKingsLaw", 51, "game", 0), ("BeggarKingsLaw", 62, ";", 1), ("BeggarKingsLaw", 64, "king", 2), ("BeggarKingsLaw", 66, "beggar", 3), ("BeggarKingsLaw", 68, " east", 4), ("BeggarKingsLaw", 70, " west", 5), ("BeggarKingsLaw", 72, "bridge", 6), ("BeggarKings", 392, "no such length", 7), ("BeggarKings", 417, "game", 0), ("BeggarKings", 438, "king", 2), ("BeggarKings", 444, "beggar", 3), ("BeggarKings", 450, "west", 8), ("BeggarKings", 452, "east", 9), ("BeggarKings", 454, "bridge", 6), ("BeggarKings", 388, "no such person", 10), ("BeggarKings", 400, "argument not allowed", 11), ("BeggarKings", 402, "not possible now", 12), ("BeggarKings", 390, "not a king", 13)]
abbrev rx_dV : String := "LBeggarKings$Verb;"
def rx_vn : List String := ["DROP", "PICK", "LAY", "LIFT", "SWAP", "QUEUE", "QUIT", "PRIDE", "TURN"]
def rx_vf : List (String × List Int32) := [("people", [1, 1, 2, 2, 2, 1, 1, 1, 0]), ("operands", [2, 2, 2, 2, 2, 2, 1, 2, 1]), ("low", [1, 1, 0, 0, 0, 0, 0, 0, 1]), ("high", [999, 999, 0, 0, 0, 99, 0, 40, 50])]
def rx_sm : List Int32 := [6, 7, 1, 2, 3, 8, 4, 9, 5]
/-- what lies below the law's start and stays: the verbs, their list, the switch's table, the texts, the JDK's statics -/
def rx_S (k : Nat → Nat) (U : State) (H : Heap) : Prop :=
  (∀ i : Nat, i < 9 → va_Z RX7 (rx_vn.getD i "") rx_dV (.ref (k (10 + i))) (fun q => k 0 ≤ q) U H ∧ va_O RX7 (k (10 + i)) (fun q => k 0 ≤ q) U H ∧ va_OF RJx29ce0 "ordinal" "I" (.int (nI i)) (k (10 + i)) (fun q => k 0 ≤ q) U H ∧
    va_T .int (k 7) (k 8) (fun j => .int (nI (k (1000 + j)))) (fun q => k 0 ≤ q) U H ∧ ∀ f ∈ rx_vf, va_OF RX7 f.1 "I" (.int (f.2.getD i 0)) (k (10 + i)) (fun q => k 0 ≤ q) U H) ∧
  True ∧ True ∧
  va_Z RX0 "$SwitchMap$BeggarKings$Verb" "[I" (.ref (k 6)) (fun q => k 0 ≤ q) U H ∧ va_T .int (k 6) 9 (fun j => .int (rx_sm.getD j 0)) (fun q => k 0 ≤ q) U H ∧
  vk_S 14 rx_len rx_byt (fun i => k (100 + i)) (fun i => k (200 + i)) (fun q => k 0 ≤ q) U H ∧
  va_Z RJ0 "COMPACT_STRINGS" "Z" (.int 1) (fun q => k 0 ≤ q) U H ∧ va_Zq RJ3 "SIOOBE_FORMATTER" "Ljava/util/function/BiFunction;" (fun q => k 0 ≤ q) U H ∧
  True
theorem rx_S.moved {k : Nat → Nat} {u U : State} {H : Heap} (hvm : u.vm.Alike U.vm) (h : rx_S k u H) : rx_S k U H := by
  obtain ⟨h1, h2, h3, h4, h5, h6, h7, h8, h9⟩ := h
  exact ⟨fun i hi => ⟨va_Z.moved hvm (h1 i hi).1, va_O.moved hvm (h1 i hi).2.1, va_OF.moved hvm (h1 i hi).2.2.1, va_T.moved hvm (h1 i hi).2.2.2.1, fun f hf => va_OF.moved hvm ((h1 i hi).2.2.2.2 f hf)⟩, h2, h3, va_Z.moved hvm h4, va_T.moved hvm h5, vk_S.moved hvm h6, va_Z.moved hvm h7, va_Zq.moved hvm h8, h9⟩
theorem rx_S.kept {k : Nat → Nat} {U : State} {H H1 : Heap} (h : rx_S k U H) (hq : ∀ a : Nat, a < H.size → ¬ k 0 ≤ a → H1[a]? = H[a]?) : rx_S k U H1 := by
  obtain ⟨h1, h2, h3, h4, h5, h6, h7, h8, h9⟩ := h
  exact ⟨fun i hi => ⟨(h1 i hi).1.kept hq, (h1 i hi).2.1.kept hq, (h1 i hi).2.2.1.kept hq, (h1 i hi).2.2.2.1.kept hq, fun f hf => ((h1 i hi).2.2.2.2 f hf).kept hq⟩, h2, h3, h4.kept hq, h5.kept hq, h6.kept hq, h7.kept hq, h8.kept hq, h9⟩
/-- the references to String constants -/
def rx_T (k : Nat → Nat) (U : State) : Prop := ∀ q ∈ rx_sr, vk_R q.1 q.2.1 q.2.2.1 (k (100 + q.2.2.2)) U
theorem rx_T.warm {k : Nat → Nat} {s U : State} (hW : s.WarmedH U.vm) (h : rx_T k s) : rx_T k U := fun q hq => vk_R.warm hW (h q hq)
theorem rx_T.same {k : Nat → Nat} {u U : State} (hv : U.vm = u.vm) (h : rx_T k u) : rx_T k U := fun q hq => vk_R.same hv (h q hq)
/-- a method's start: the picture, and all that stays -/
def rx_G (G : va_G) (k : Nat → Nat) (h : hp) (n : Nat) (U : State) : Prop := rx_P G (k 0) h n U.heap ∧ rx_V G k U ∧ rx_T k U ∧ rx_S k U U.heap
/-- what a walk stands on -/
def rx_C (G : va_G) (k : Nat → Nat) (p : Program) (m : MethodId) (c : Code) (cc : ByteArray) (own : String) (nL : Nat) (ret : Option FieldType) (s : State) (args : Array Value) (meth : Method) : Prop :=
  p.tables.exec = Jvm.exec ∧ c.code = cc ∧ s.vm.findClass own = some m.cls ∧ (∀ w ∈ rx_good, w.before args s = true) ∧ c.maxLocals = nL ∧ meth.sig.returnType = ret ∧ meth.locks = false ∧ rx_V G k s ∧ rx_T k s ∧ rx_S k s s.heap
/-- the walk at pc: from any heap that the picture fits -/
def rx_W (p : Program) (l : Launch) (e : Env) (R : Room) (s : State) (m : MethodId) (args : Array Value) (below : List Frame) (meth : Method) (c : Code) (Q : State → Prop) (G : va_G) (k : Nat → Nat) (nL cells slots : Nat) (h : hp) (n pc : Nat) (L : List (Nat × Value)) (st : List Value) : Prop :=
  ∀ (H : Heap) (locs : List Loc) (ls : Array Slot), rx_P G (k 0) h n H → va_S (fun q => k 0 ≤ q) s.heap H locs → lv_has ls nL L → W p l e R s m args below meth c H locs cells slots Q (F0 m pc ls st)
end
section
section RXR
variable {p : Program} {l : Launch} {e : Env} {R : Room} {s : State} {m : MethodId} {args : Array Value} {below : List Frame} {meth : Method} {c : Code} {Q : State → Prop} {G : va_G} {k : Nat → Nat} {cc : ByteArray} {own : String} {nL : Nat} {ret : Option FieldType} {cells slots : Nat} {h : hp} {n pc : Nat} {L : List (Nat × Value)} {st : List Value}
theorem rx_iconst (C : rx_C G k p m c cc own nL ret s args meth) {i : Int} (hdg : decode cc pc = .ok (.iconst i, 1)) (v : Int32) (hv : Int32.ofInt i = v) (K : rx_W p l e R s m args below meth c Q G k nL cells slots h n (pc + 1) L (.int v :: st)) : rx_W p l e R s m args below meth c Q G k nL cells slots h n pc L (st) := fun H locs ls hP hS hl => lv_iconst C.1 C.2.1 hdg hv (K H locs ls hP hS hl)
theorem rx_bipush (C : rx_C G k p m c cc own nL ret s args meth) {i : Int} (hdg : decode cc pc = .ok (.bipush i, 2)) (v : Int32) (hv : (Int8.ofInt i).toInt32 = v) (K : rx_W p l e R s m args below meth c Q G k nL cells slots h n (pc + 2) L (.int v :: st)) : rx_W p l e R s m args below meth c Q G k nL cells slots h n pc L (st) := fun H locs ls hP hS hl => lv_bipush C.1 C.2.1 hdg hv (K H locs ls hP hS hl)
theorem rx_sipush (C : rx_C G k p m c cc own nL ret s args meth) {i : Int} (hdg : decode cc pc = .ok (.sipush i, 3)) (v : Int32) (hv : (Int16.ofInt i).toInt32 = v) (K : rx_W p l e R s m args below meth c Q G k nL cells slots h n (pc + 3) L (.int v :: st)) : rx_W p l e R s m args below meth c Q G k nL cells slots h n pc L (st) := fun H locs ls hP hS hl => lv_sipush C.1 C.2.1 hdg hv (K H locs ls hP hS hl)
theorem rx_lconst (C : rx_C G k p m c cc own nL ret s args meth) {i : Fin 2} (hdg : decode cc pc = .ok (.lconst i, 1)) (v : Int64) (hv : Int64.ofNat (i : Nat) = v) (K : rx_W p l e R s m args below meth c Q G k nL cells slots h n (pc + 1) L (.long v :: st)) : rx_W p l e R s m args below meth c Q G k nL cells slots h n pc L (st) := fun H locs ls hP hS hl => lv_lconst C.1 C.2.1 hdg hv (K H locs ls hP hS hl)
theorem rx_fconst0 (C : rx_C G k p m c cc own nL ret s args meth) (hdg : decode cc pc = .ok (.fconst 0, 1)) (K : rx_W p l e R s m args below meth c Q G k nL cells slots h n (pc + 1) L (.float FP.fconst0 :: st)) : rx_W p l e R s m args below meth c Q G k nL cells slots h n pc L (st) := fun H locs ls hP hS hl => lv_fconst0 C.1 C.2.1 hdg  (K H locs ls hP hS hl)
theorem rx_dconst0 (C : rx_C G k p m c cc own nL ret s args meth) (hdg : decode cc pc = .ok (.dconst 0, 1)) (K : rx_W p l e R s m args below meth c Q G k nL cells slots h n (pc + 1) L (.double FP.dconst0 :: st)) : rx_W p l e R s m args below meth c Q G k nL cells slots h n pc L (st) := fun H locs ls hP hS hl => lv_dconst0 C.1 C.2.1 hdg  (K H locs ls hP hS hl)
theorem rx_null (C : rx_C G k p m c cc own nL ret s args meth) (hdg : decode cc pc = .ok (.aconst_null, 1)) (K : rx_W p l e R s m args below meth c Q G k nL cells slots h n (pc + 1) L (.null :: st)) : rx_W p l e R s m args below meth c Q G k nL cells slots h n pc L (st) := fun H locs ls hP hS hl => lv_null C.1 C.2.1 hdg  (K H locs ls hP hS hl)
theorem rx_iload_n (C : rx_C G k p m c cc own nL ret s args meth) {j : Fin 4} (hdg : decode cc pc = .ok (.iload_n j, 1)) (i : Nat) {x : Int32} (hL : L[i]? = some ((j : Nat), .int x)) (K : rx_W p l e R s m args below meth c Q G k nL cells slots h n (pc + 1) L (.int x :: st)) : rx_W p l e R s m args below meth c Q G k nL cells slots h n pc L (st) := fun H locs ls hP hS hl => lv_iload_n C.1 C.2.1 hdg rfl (lv_at hl i hL) (K H locs ls hP hS hl)
theorem rx_iload (C : rx_C G k p m c cc own nL ret s args meth) {j : Nat} (hdg : decode cc pc = .ok (.iload j, 2)) (i : Nat) {x : Int32} (hL : L[i]? = some (j, .int x)) (K : rx_W p l e R s m args below meth c Q G k nL cells slots h n (pc + 2) L (.int x :: st)) : rx_W p l e R s m args below meth c Q G k nL cells slots h n pc L (st) := fun H locs ls hP hS hl => lv_iload C.1 C.2.1 hdg (lv_at hl i hL) (K H locs ls hP hS hl)
theorem rx_istore_n (C : rx_C G k p m c cc own nL ret s args meth) {j : Fin 4} {x : Int32} (hdg : decode cc pc = .ok (.istore_n j, 1)) (hn : (j : Nat) < nL) (L2 : List (Nat × Value)) (hL : ((j : Nat), (Value.int x)) :: L.filter (fun q => !(q.1 == (j : Nat)) && !(q.1 + 1 == (j : Nat) && q.2.category == 2)) = L2) (K : rx_W p l e R s m args below meth c Q G k nL cells slots h n (pc + 1) L2 st) : rx_W p l e R s m args below meth c Q G k nL cells slots h n pc L (.int x :: st) := fun H locs ls hP hS hl => lv_istore_n C.1 C.2.1 hdg rfl hl hn hL (fun ls2 hl2 => K H locs ls2 hP hS hl2)
theorem rx_istore (C : rx_C G k p m c cc own nL ret s args meth) {j : Nat} {x : Int32} (hdg : decode cc pc = .ok (.istore j, 2)) (hn : j < nL) (L2 : List (Nat × Value)) (hL : (j, (Value.int x)) :: L.filter (fun q => !(q.1 == j) && !(q.1 + 1 == j && q.2.category == 2)) = L2) (K : rx_W p l e R s m args below meth c Q G k nL cells slots h n (pc + 2) L2 st) : rx_W p l e R s m args below meth c Q G k nL cells slots h n pc L (.int x :: st) := fun H locs ls hP hS hl => lv_istore C.1 C.2.1 hdg hl hn hL (fun ls2 hl2 => K H locs ls2 hP hS hl2)
theorem rx_aload_n (C : rx_C G k p m c cc own nL ret s args meth) {j : Fin 4} (hdg : decode cc pc = .ok (.aload_n j, 1)) (i : Nat) {x : Nat} (hL : L[i]? = some ((j : Nat), .ref x)) (K : rx_W p l e R s m args below meth c Q G k nL cells slots h n (pc + 1) L (.ref x :: st)) : rx_W p l e R s m args below meth c Q G k nL cells slots h n pc L (st) := fun H locs ls hP hS hl => lv_aload_n C.1 C.2.1 hdg rfl (lv_at hl i hL) (K H locs ls hP hS hl)
theorem rx_aload (C : rx_C G k p m c cc own nL ret s args meth) {j : Nat} (hdg : decode cc pc = .ok (.aload j, 2)) (i : Nat) {x : Nat} (hL : L[i]? = some (j, .ref x)) (K : rx_W p l e R s m args below meth c Q G k nL cells slots h n (pc + 2) L (.ref x :: st)) : rx_W p l e R s m args below meth c Q G k nL cells slots h n pc L (st) := fun H locs ls hP hS hl => lv_aload C.1 C.2.1 hdg (lv_at hl i hL) (K H locs ls hP hS hl)
theorem rx_astore_n (C : rx_C G k p m c cc own nL ret s args meth) {j : Fin 4} {x : Nat} (hdg : decode cc pc = .ok (.astore_n j, 1)) (hn : (j : Nat) < nL) (L2 : List (Nat × Value)) (hL : ((j : Nat), (Value.ref x)) :: L.filter (fun q => !(q.1 == (j : Nat)) && !(q.1 + 1 == (j : Nat) && q.2.category == 2)) = L2) (K : rx_W p l e R s m args below meth c Q G k nL cells slots h n (pc + 1) L2 st) : rx_W p l e R s m args below meth c Q G k nL cells slots h n pc L (.ref x :: st) := fun H locs ls hP hS hl => lv_astore_n C.1 C.2.1 hdg rfl hl hn hL (fun ls2 hl2 => K H locs ls2 hP hS hl2)
theorem rx_astore (C : rx_C G k p m c cc own nL ret s args meth) {j : Nat} {x : Nat} (hdg : decode cc pc = .ok (.astore j, 2)) (hn : j < nL) (L2 : List (Nat × Value)) (hL : (j, (Value.ref x)) :: L.filter (fun q => !(q.1 == j) && !(q.1 + 1 == j && q.2.category == 2)) = L2) (K : rx_W p l e R s m args below meth c Q G k nL cells slots h n (pc + 2) L2 st) : rx_W p l e R s m args below meth c Q G k nL cells slots h n pc L (.ref x :: st) := fun H locs ls hP hS hl => lv_astore C.1 C.2.1 hdg hl hn hL (fun ls2 hl2 => K H locs ls2 hP hS hl2)
theorem rx_dload_n (C : rx_C G k p m c cc own nL ret s args meth) {j : Fin 4} (hdg : decode cc pc = .ok (.dload_n j, 1)) (i : Nat) {x : UInt64} (hL : L[i]? = some ((j : Nat), .double x)) (K : rx_W p l e R s m args below meth c Q G k nL cells slots h n (pc + 1) L (.double x :: st)) : rx_W p l e R s m args below meth c Q G k nL cells slots h n pc L (st) := fun H locs ls hP hS hl => lv_dload_n C.1 C.2.1 hdg rfl (lv_at hl i hL) (K H locs ls hP hS hl)
theorem rx_dload (C : rx_C G k p m c cc own nL ret s args meth) {j : Nat} (hdg : decode cc pc = .ok (.dload j, 2)) (i : Nat) {x : UInt64} (hL : L[i]? = some (j, .double x)) (K : rx_W p l e R s m args below meth c Q G k nL cells slots h n (pc + 2) L (.double x :: st)) : rx_W p l e R s m args below meth c Q G k nL cells slots h n pc L (st) := fun H locs ls hP hS hl => lv_dload C.1 C.2.1 hdg (lv_at hl i hL) (K H locs ls hP hS hl)
theorem rx_dstore_n (C : rx_C G k p m c cc own nL ret s args meth) {j : Fin 4} {x : UInt64} (hdg : decode cc pc = .ok (.dstore_n j, 1)) (hn : (j : Nat) + 1 < nL) (L2 : List (Nat × Value)) (hL : ((j : Nat), (Value.double x)) :: L.filter (fun q => !(q.1 == (j : Nat)) && (!(q.1 == (j : Nat) + 1) && !(q.1 + 1 == (j : Nat) && q.2.category == 2))) = L2) (K : rx_W p l e R s m args below meth c Q G k nL cells slots h n (pc + 1) L2 st) : rx_W p l e R s m args below meth c Q G k nL cells slots h n pc L (.double x :: st) := fun H locs ls hP hS hl => lv_dstore_n C.1 C.2.1 hdg rfl hl hn hL (fun ls2 hl2 => K H locs ls2 hP hS hl2)
theorem rx_dstore (C : rx_C G k p m c cc own nL ret s args meth) {j : Nat} {x : UInt64} (hdg : decode cc pc = .ok (.dstore j, 2)) (hn : j + 1 < nL) (L2 : List (Nat × Value)) (hL : (j, (Value.double x)) :: L.filter (fun q => !(q.1 == j) && (!(q.1 == j + 1) && !(q.1 + 1 == j && q.2.category == 2))) = L2) (K : rx_W p l e R s m args below meth c Q G k nL cells slots h n (pc + 2) L2 st) : rx_W p l e R s m args below meth c Q G k nL cells slots h n pc L (.double x :: st) := fun H locs ls hP hS hl => lv_dstore C.1 C.2.1 hdg hl hn hL (fun ls2 hl2 => K H locs ls2 hP hS hl2)
theorem rx_fload_n (C : rx_C G k p m c cc own nL ret s args meth) {j : Fin 4} (hdg : decode cc pc = .ok (.fload_n j, 1)) (i : Nat) {x : UInt32} (hL : L[i]? = some ((j : Nat), .float x)) (K : rx_W p l e R s m args below meth c Q G k nL cells slots h n (pc + 1) L (.float x :: st)) : rx_W p l e R s m args below meth c Q G k nL cells slots h n pc L (st) := fun H locs ls hP hS hl => lv_fload_n C.1 C.2.1 hdg rfl (lv_at hl i hL) (K H locs ls hP hS hl)
theorem rx_fload (C : rx_C G k p m c cc own nL ret s args meth) {j : Nat} (hdg : decode cc pc = .ok (.fload j, 2)) (i : Nat) {x : UInt32} (hL : L[i]? = some (j, .float x)) (K : rx_W p l e R s m args below meth c Q G k nL cells slots h n (pc + 2) L (.float x :: st)) : rx_W p l e R s m args below meth c Q G k nL cells slots h n pc L (st) := fun H locs ls hP hS hl => lv_fload C.1 C.2.1 hdg (lv_at hl i hL) (K H locs ls hP hS hl)
theorem rx_iinc (C : rx_C G k p m c cc own nL ret s args meth) {j : Nat} {z : Int} {x : Int32} (hdg : decode cc pc = .ok (.iinc j z, 3)) (i : Nat) (hi : L[i]? = some (j, .int x)) (v : Int32) (hv : x + Int32.ofInt z = v) (hn : j < nL) (L2 : List (Nat × Value)) (hL : (j, (Value.int v)) :: L.filter (fun q => !(q.1 == j) && !(q.1 + 1 == j && q.2.category == 2)) = L2) (K : rx_W p l e R s m args below meth c Q G k nL cells slots h n (pc + 3) L2 st) : rx_W p l e R s m args below meth c Q G k nL cells slots h n pc L st := fun H locs ls hP hS hl => lv_iinc C.1 C.2.1 hdg hl hi hv hn hL (fun ls2 hl2 => K H locs ls2 hP hS hl2)
theorem rx_iadd (C : rx_C G k p m c cc own nL ret s args meth) {x y : Int32} (hdg : decode cc pc = .ok (.iadd, 1)) (K : rx_W p l e R s m args below meth c Q G k nL cells slots h n (pc + 1) L (.int (x + y) :: st)) : rx_W p l e R s m args below meth c Q G k nL cells slots h n pc L (.int y :: .int x :: st) := fun H locs ls hP hS hl => lv_iadd C.1 C.2.1 hdg  (K H locs ls hP hS hl)
theorem rx_isub (C : rx_C G k p m c cc own nL ret s args meth) {x y : Int32} (hdg : decode cc pc = .ok (.isub, 1)) (K : rx_W p l e R s m args below meth c Q G k nL cells slots h n (pc + 1) L (.int (x - y) :: st)) : rx_W p l e R s m args below meth c Q G k nL cells slots h n pc L (.int y :: .int x :: st) := fun H locs ls hP hS hl => lv_isub C.1 C.2.1 hdg  (K H locs ls hP hS hl)
theorem rx_imul (C : rx_C G k p m c cc own nL ret s args meth) {x y : Int32} (hdg : decode cc pc = .ok (.imul, 1)) (K : rx_W p l e R s m args below meth c Q G k nL cells slots h n (pc + 1) L (.int (x * y) :: st)) : rx_W p l e R s m args below meth c Q G k nL cells slots h n pc L (.int y :: .int x :: st) := fun H locs ls hP hS hl => lv_imul C.1 C.2.1 hdg  (K H locs ls hP hS hl)
theorem rx_iand (C : rx_C G k p m c cc own nL ret s args meth) {x y : Int32} (hdg : decode cc pc = .ok (.iand, 1)) (K : rx_W p l e R s m args below meth c Q G k nL cells slots h n (pc + 1) L (.int (x &&& y) :: st)) : rx_W p l e R s m args below meth c Q G k nL cells slots h n pc L (.int y :: .int x :: st) := fun H locs ls hP hS hl => lv_iand C.1 C.2.1 hdg  (K H locs ls hP hS hl)
theorem rx_ishr (C : rx_C G k p m c cc own nL ret s args meth) {x y : Int32} (hdg : decode cc pc = .ok (.ishr, 1)) (K : rx_W p l e R s m args below meth c Q G k nL cells slots h n (pc + 1) L (.int (x >>> (y &&& 31)) :: st)) : rx_W p l e R s m args below meth c Q G k nL cells slots h n pc L (.int y :: .int x :: st) := fun H locs ls hP hS hl => lv_ishr C.1 C.2.1 hdg  (K H locs ls hP hS hl)
theorem rx_ishl (C : rx_C G k p m c cc own nL ret s args meth) {x y : Int32} (hdg : decode cc pc = .ok (.ishl, 1)) (K : rx_W p l e R s m args below meth c Q G k nL cells slots h n (pc + 1) L (.int (x <<< (y &&& 31)) :: st)) : rx_W p l e R s m args below meth c Q G k nL cells slots h n pc L (.int y :: .int x :: st) := fun H locs ls hP hS hl => lv_ishl C.1 C.2.1 hdg  (K H locs ls hP hS hl)
theorem rx_ior (C : rx_C G k p m c cc own nL ret s args meth) {x y : Int32} (hdg : decode cc pc = .ok (.ior, 1)) (K : rx_W p l e R s m args below meth c Q G k nL cells slots h n (pc + 1) L (.int (x ||| y) :: st)) : rx_W p l e R s m args below meth c Q G k nL cells slots h n pc L (.int y :: .int x :: st) := fun H locs ls hP hS hl => lv_ior C.1 C.2.1 hdg  (K H locs ls hP hS hl)
theorem rx_iushr (C : rx_C G k p m c cc own nL ret s args meth) {x y : Int32} (hdg : decode cc pc = .ok (.iushr, 1)) (K : rx_W p l e R s m args below meth c Q G k nL cells slots h n (pc + 1) L (.int (x.toUInt32 >>> (y.toUInt32 &&& Int32.toUInt32 31)).toInt32 :: st)) : rx_W p l e R s m args below meth c Q G k nL cells slots h n pc L (.int y :: .int x :: st) := fun H locs ls hP hS hl => lv_iushr C.1 C.2.1 hdg rfl (K H locs ls hP hS hl)
theorem rx_idiv (C : rx_C G k p m c cc own nL ret s args meth) {x y : Int32} (hdg : decode cc pc = .ok (.idiv, 1)) (hne : ¬ y = 0) (K : rx_W p l e R s m args below meth c Q G k nL cells slots h n (pc + 1) L (.int (x / y) :: st)) : rx_W p l e R s m args below meth c Q G k nL cells slots h n pc L (.int y :: .int x :: st) := fun H locs ls hP hS hl => lv_idiv C.1 C.2.1 hdg hne (K H locs ls hP hS hl)
theorem rx_irem (C : rx_C G k p m c cc own nL ret s args meth) {x y : Int32} (hdg : decode cc pc = .ok (.irem, 1)) (hne : ¬ y = 0) (K : rx_W p l e R s m args below meth c Q G k nL cells slots h n (pc + 1) L (.int (x - x / y * y) :: st)) : rx_W p l e R s m args below meth c Q G k nL cells slots h n pc L (.int y :: .int x :: st) := fun H locs ls hP hS hl => lv_irem C.1 C.2.1 hdg hne (K H locs ls hP hS hl)
theorem rx_ineg (C : rx_C G k p m c cc own nL ret s args meth) {x : Int32} (hdg : decode cc pc = .ok (.ineg, 1)) (K : rx_W p l e R s m args below meth c Q G k nL cells slots h n (pc + 1) L (.int (-x) :: st)) : rx_W p l e R s m args below meth c Q G k nL cells slots h n pc L (.int x :: st) := fun H locs ls hP hS hl => lv_ineg C.1 C.2.1 hdg  (K H locs ls hP hS hl)
theorem rx_i2l (C : rx_C G k p m c cc own nL ret s args meth) {x : Int32} (hdg : decode cc pc = .ok (.i2l, 1)) (K : rx_W p l e R s m args below meth c Q G k nL cells slots h n (pc + 1) L (.long x.toInt64 :: st)) : rx_W p l e R s m args below meth c Q G k nL cells slots h n pc L (.int x :: st) := fun H locs ls hP hS hl => lv_i2l C.1 C.2.1 hdg rfl (K H locs ls hP hS hl)
theorem rx_lcmp (C : rx_C G k p m c cc own nL ret s args meth) {x y : Int64} (hdg : decode cc pc = .ok (.lcmp, 1)) (K : rx_W p l e R s m args below meth c Q G k nL cells slots h n (pc + 1) L (.int (lg_cmp x y) :: st)) : rx_W p l e R s m args below meth c Q G k nL cells slots h n pc L (.long y :: .long x :: st) := fun H locs ls hP hS hl => W.lcmp C.1 C.2.1 hdg  (K H locs ls hP hS hl)
theorem rx_dcmp (C : rx_C G k p m c cc own nL ret s args meth) {x y : UInt64} {op : CmpOp} (hdg : decode cc pc = .ok (.dcmp op, 1)) (K : rx_W p l e R s m args below meth c Q G k nL cells slots h n (pc + 1) L (.int (Op.cmpValue (FP.dcmp x y) op) :: st)) : rx_W p l e R s m args below meth c Q G k nL cells slots h n pc L (.double y :: .double x :: st) := fun H locs ls hP hS hl => lv_dcmp C.1 C.2.1 hdg  (K H locs ls hP hS hl)
theorem rx_i2d (C : rx_C G k p m c cc own nL ret s args meth) {x : Int32} (hdg : decode cc pc = .ok (.i2d, 1)) (K : rx_W p l e R s m args below meth c Q G k nL cells slots h n (pc + 1) L (.double (FP.i2d x) :: st)) : rx_W p l e R s m args below meth c Q G k nL cells slots h n pc L (.int x :: st) := fun H locs ls hP hS hl => lv_i2d C.1 C.2.1 hdg  (K H locs ls hP hS hl)
theorem rx_i2f (C : rx_C G k p m c cc own nL ret s args meth) {x : Int32} (hdg : decode cc pc = .ok (.i2f, 1)) (K : rx_W p l e R s m args below meth c Q G k nL cells slots h n (pc + 1) L (.float (FP.i2f x) :: st)) : rx_W p l e R s m args below meth c Q G k nL cells slots h n pc L (.int x :: st) := fun H locs ls hP hS hl => lv_i2f C.1 C.2.1 hdg  (K H locs ls hP hS hl)
theorem rx_ddiv (C : rx_C G k p m c cc own nL ret s args meth) {x y : UInt64} (hdg : decode cc pc = .ok (.ddiv, 1)) (hne : vf_n64 (FP.ddiv x y)) (K : rx_W p l e R s m args below meth c Q G k nL cells slots h n (pc + 1) L (.double (FP.ddiv x y) :: st)) : rx_W p l e R s m args below meth c Q G k nL cells slots h n pc L (.double y :: .double x :: st) := fun H locs ls hP hS hl => lv_ddiv C.1 C.2.1 hdg hne (K H locs ls hP hS hl)
theorem rx_fdiv (C : rx_C G k p m c cc own nL ret s args meth) {x y : UInt32} (hdg : decode cc pc = .ok (.fdiv, 1)) (hne : vf_n32 (FP.fdiv x y)) (K : rx_W p l e R s m args below meth c Q G k nL cells slots h n (pc + 1) L (.float (FP.fdiv x y) :: st)) : rx_W p l e R s m args below meth c Q G k nL cells slots h n pc L (.float y :: .float x :: st) := fun H locs ls hP hS hl => lv_fdiv C.1 C.2.1 hdg hne (K H locs ls hP hS hl)
theorem rx_f2d (C : rx_C G k p m c cc own nL ret s args meth) {x : UInt32} (hdg : decode cc pc = .ok (.f2d, 1)) (hne : vf_n64 (FP.f2d x)) (K : rx_W p l e R s m args below meth c Q G k nL cells slots h n (pc + 1) L (.double (FP.f2d x) :: st)) : rx_W p l e R s m args below meth c Q G k nL cells slots h n pc L (.float x :: st) := fun H locs ls hP hS hl => lv_f2d C.1 C.2.1 hdg hne (K H locs ls hP hS hl)
theorem rx_dup (C : rx_C G k p m c cc own nL ret s args meth) {v : Value} (hdg : decode cc pc = .ok (.dup, 1)) (hc : v.category = 1) (K : rx_W p l e R s m args below meth c Q G k nL cells slots h n (pc + 1) L (v :: v :: st)) : rx_W p l e R s m args below meth c Q G k nL cells slots h n pc L (v :: st) := fun H locs ls hP hS hl => lv_dup C.1 C.2.1 hdg hc (K H locs ls hP hS hl)
theorem rx_pop (C : rx_C G k p m c cc own nL ret s args meth) {v : Value} (hdg : decode cc pc = .ok (.pop, 1)) (hc : v.category = 1) (K : rx_W p l e R s m args below meth c Q G k nL cells slots h n (pc + 1) L (st)) : rx_W p l e R s m args below meth c Q G k nL cells slots h n pc L (v :: st) := fun H locs ls hP hS hl => lv_pop C.1 C.2.1 hdg hc (K H locs ls hP hS hl)
theorem rx_dup2 (C : rx_C G k p m c cc own nL ret s args meth) {v w : Value} (hdg : decode cc pc = .ok (.dup2, 1)) (hc : v.category = 1) (hd : w.category = 1) (K : rx_W p l e R s m args below meth c Q G k nL cells slots h n (pc + 1) L (v :: w :: v :: w :: st)) : rx_W p l e R s m args below meth c Q G k nL cells slots h n pc L (v :: w :: st) := fun H locs ls hP hS hl => lv_dup2_11 C.1 C.2.1 hdg hc hd (K H locs ls hP hS hl)
theorem rx_if_eq (C : rx_C G k p m c cc own nL ret s args meth) {x : Int32} {off : Int} (hdg : decode cc pc = .ok (.ifCond .eq off, 3)) (tgt : Nat) (ht : (pc : Int) + off = (tgt : Int)) (kt : x = 0 → rx_W p l e R s m args below meth c Q G k nL cells slots h n tgt L st) (kf : ¬ x = 0 → rx_W p l e R s m args below meth c Q G k nL cells slots h n (pc + 3) L st) : rx_W p l e R s m args below meth c Q G k nL cells slots h n pc L (.int x :: st) := fun H locs ls hP hS hl => lv_if_eq C.1 C.2.1 hdg ht (fun q => kt q H locs ls hP hS hl) (fun q => kf q H locs ls hP hS hl)
theorem rx_icmp_eq (C : rx_C G k p m c cc own nL ret s args meth) {x y : Int32} {off : Int} (hdg : decode cc pc = .ok (.if_icmp .eq off, 3)) (tgt : Nat) (ht : (pc : Int) + off = (tgt : Int)) (kt : x = y → rx_W p l e R s m args below meth c Q G k nL cells slots h n tgt L st) (kf : ¬ x = y → rx_W p l e R s m args below meth c Q G k nL cells slots h n (pc + 3) L st) : rx_W p l e R s m args below meth c Q G k nL cells slots h n pc L (.int y :: .int x :: st) := fun H locs ls hP hS hl => lv_icmp_eq C.1 C.2.1 hdg ht (fun q => kt q H locs ls hP hS hl) (fun q => kf q H locs ls hP hS hl)
theorem rx_if_lt (C : rx_C G k p m c cc own nL ret s args meth) {x : Int32} {off : Int} (hdg : decode cc pc = .ok (.ifCond .lt off, 3)) (tgt : Nat) (ht : (pc : Int) + off = (tgt : Int)) (kt : x < 0 → rx_W p l e R s m args below meth c Q G k nL cells slots h n tgt L st) (kf : ¬ x < 0 → rx_W p l e R s m args below meth c Q G k nL cells slots h n (pc + 3) L st) : rx_W p l e R s m args below meth c Q G k nL cells slots h n pc L (.int x :: st) := fun H locs ls hP hS hl => lv_if_lt C.1 C.2.1 hdg ht (fun q => kt q H locs ls hP hS hl) (fun q => kf q H locs ls hP hS hl)
theorem rx_icmp_lt (C : rx_C G k p m c cc own nL ret s args meth) {x y : Int32} {off : Int} (hdg : decode cc pc = .ok (.if_icmp .lt off, 3)) (tgt : Nat) (ht : (pc : Int) + off = (tgt : Int)) (kt : x < y → rx_W p l e R s m args below meth c Q G k nL cells slots h n tgt L st) (kf : ¬ x < y → rx_W p l e R s m args below meth c Q G k nL cells slots h n (pc + 3) L st) : rx_W p l e R s m args below meth c Q G k nL cells slots h n pc L (.int y :: .int x :: st) := fun H locs ls hP hS hl => lv_icmp_lt C.1 C.2.1 hdg ht (fun q => kt q H locs ls hP hS hl) (fun q => kf q H locs ls hP hS hl)
theorem rx_if_ne (C : rx_C G k p m c cc own nL ret s args meth) {x : Int32} {off : Int} (hdg : decode cc pc = .ok (.ifCond .ne off, 3)) (tgt : Nat) (ht : (pc : Int) + off = (tgt : Int)) (kt : ¬ x = 0 → rx_W p l e R s m args below meth c Q G k nL cells slots h n tgt L st) (kf : x = 0 → rx_W p l e R s m args below meth c Q G k nL cells slots h n (pc + 3) L st) : rx_W p l e R s m args below meth c Q G k nL cells slots h n pc L (.int x :: st) := fun H locs ls hP hS hl => lv_if_ne C.1 C.2.1 hdg ht (fun q => kt q H locs ls hP hS hl) (fun q => kf q H locs ls hP hS hl)
theorem rx_icmp_ne (C : rx_C G k p m c cc own nL ret s args meth) {x y : Int32} {off : Int} (hdg : decode cc pc = .ok (.if_icmp .ne off, 3)) (tgt : Nat) (ht : (pc : Int) + off = (tgt : Int)) (kt : ¬ x = y → rx_W p l e R s m args below meth c Q G k nL cells slots h n tgt L st) (kf : x = y → rx_W p l e R s m args below meth c Q G k nL cells slots h n (pc + 3) L st) : rx_W p l e R s m args below meth c Q G k nL cells slots h n pc L (.int y :: .int x :: st) := fun H locs ls hP hS hl => lv_icmp_ne C.1 C.2.1 hdg ht (fun q => kt q H locs ls hP hS hl) (fun q => kf q H locs ls hP hS hl)
theorem rx_if_ge (C : rx_C G k p m c cc own nL ret s args meth) {x : Int32} {off : Int} (hdg : decode cc pc = .ok (.ifCond .ge off, 3)) (tgt : Nat) (ht : (pc : Int) + off = (tgt : Int)) (kt : 0 ≤ x → rx_W p l e R s m args below meth c Q G k nL cells slots h n tgt L st) (kf : ¬ 0 ≤ x → rx_W p l e R s m args below meth c Q G k nL cells slots h n (pc + 3) L st) : rx_W p l e R s m args below meth c Q G k nL cells slots h n pc L (.int x :: st) := fun H locs ls hP hS hl => lv_if_ge C.1 C.2.1 hdg ht (fun q => kt q H locs ls hP hS hl) (fun q => kf q H locs ls hP hS hl)
theorem rx_icmp_ge (C : rx_C G k p m c cc own nL ret s args meth) {x y : Int32} {off : Int} (hdg : decode cc pc = .ok (.if_icmp .ge off, 3)) (tgt : Nat) (ht : (pc : Int) + off = (tgt : Int)) (kt : y ≤ x → rx_W p l e R s m args below meth c Q G k nL cells slots h n tgt L st) (kf : ¬ y ≤ x → rx_W p l e R s m args below meth c Q G k nL cells slots h n (pc + 3) L st) : rx_W p l e R s m args below meth c Q G k nL cells slots h n pc L (.int y :: .int x :: st) := fun H locs ls hP hS hl => lv_icmp_ge C.1 C.2.1 hdg ht (fun q => kt q H locs ls hP hS hl) (fun q => kf q H locs ls hP hS hl)
theorem rx_if_gt (C : rx_C G k p m c cc own nL ret s args meth) {x : Int32} {off : Int} (hdg : decode cc pc = .ok (.ifCond .gt off, 3)) (tgt : Nat) (ht : (pc : Int) + off = (tgt : Int)) (kt : 0 < x → rx_W p l e R s m args below meth c Q G k nL cells slots h n tgt L st) (kf : ¬ 0 < x → rx_W p l e R s m args below meth c Q G k nL cells slots h n (pc + 3) L st) : rx_W p l e R s m args below meth c Q G k nL cells slots h n pc L (.int x :: st) := fun H locs ls hP hS hl => lv_if_gt C.1 C.2.1 hdg ht (fun q => kt q H locs ls hP hS hl) (fun q => kf q H locs ls hP hS hl)
theorem rx_icmp_gt (C : rx_C G k p m c cc own nL ret s args meth) {x y : Int32} {off : Int} (hdg : decode cc pc = .ok (.if_icmp .gt off, 3)) (tgt : Nat) (ht : (pc : Int) + off = (tgt : Int)) (kt : y < x → rx_W p l e R s m args below meth c Q G k nL cells slots h n tgt L st) (kf : ¬ y < x → rx_W p l e R s m args below meth c Q G k nL cells slots h n (pc + 3) L st) : rx_W p l e R s m args below meth c Q G k nL cells slots h n pc L (.int y :: .int x :: st) := fun H locs ls hP hS hl => lv_icmp_gt C.1 C.2.1 hdg ht (fun q => kt q H locs ls hP hS hl) (fun q => kf q H locs ls hP hS hl)
theorem rx_if_le (C : rx_C G k p m c cc own nL ret s args meth) {x : Int32} {off : Int} (hdg : decode cc pc = .ok (.ifCond .le off, 3)) (tgt : Nat) (ht : (pc : Int) + off = (tgt : Int)) (kt : x ≤ 0 → rx_W p l e R s m args below meth c Q G k nL cells slots h n tgt L st) (kf : ¬ x ≤ 0 → rx_W p l e R s m args below meth c Q G k nL cells slots h n (pc + 3) L st) : rx_W p l e R s m args below meth c Q G k nL cells slots h n pc L (.int x :: st) := fun H locs ls hP hS hl => lv_if_le C.1 C.2.1 hdg ht (fun q => kt q H locs ls hP hS hl) (fun q => kf q H locs ls hP hS hl)
theorem rx_icmp_le (C : rx_C G k p m c cc own nL ret s args meth) {x y : Int32} {off : Int} (hdg : decode cc pc = .ok (.if_icmp .le off, 3)) (tgt : Nat) (ht : (pc : Int) + off = (tgt : Int)) (kt : x ≤ y → rx_W p l e R s m args below meth c Q G k nL cells slots h n tgt L st) (kf : ¬ x ≤ y → rx_W p l e R s m args below meth c Q G k nL cells slots h n (pc + 3) L st) : rx_W p l e R s m args below meth c Q G k nL cells slots h n pc L (.int y :: .int x :: st) := fun H locs ls hP hS hl => lv_icmp_le C.1 C.2.1 hdg ht (fun q => kt q H locs ls hP hS hl) (fun q => kf q H locs ls hP hS hl)
theorem rx_goto (C : rx_C G k p m c cc own nL ret s args meth) {off : Int} (hdg : decode cc pc = .ok (.goto off, 3)) (tgt : Nat) (ht : (pc : Int) + off = (tgt : Int)) (K : rx_W p l e R s m args below meth c Q G k nL cells slots h n tgt L st) : rx_W p l e R s m args below meth c Q G k nL cells slots h n pc L st := fun H locs ls hP hS hl => lv_goto C.1 C.2.1 hdg ht (K H locs ls hP hS hl)
theorem rx_ifnonnull (C : rx_C G k p m c cc own nL ret s args meth) {x : Nat} {off : Int} (hdg : decode cc pc = .ok (.ifnonnull off, 3)) (tgt : Nat) (ht : (pc : Int) + off = (tgt : Int)) (K : rx_W p l e R s m args below meth c Q G k nL cells slots h n tgt L st) : rx_W p l e R s m args below meth c Q G k nL cells slots h n pc L (.ref x :: st) := fun H locs ls hP hS hl => lv_ifnonnull C.1 C.2.1 hdg ht (K H locs ls hP hS hl)
theorem rx_ifnonnullN (C : rx_C G k p m c cc own nL ret s args meth) {off : Int} (hdg : decode cc pc = .ok (.ifnonnull off, 3)) (K : rx_W p l e R s m args below meth c Q G k nL cells slots h n (pc + 3) L st) : rx_W p l e R s m args below meth c Q G k nL cells slots h n pc L (.null :: st) := fun H locs ls hP hS hl => lv_ifnonnullN C.1 C.2.1 hdg (K H locs ls hP hS hl)
theorem rx_ifnull (C : rx_C G k p m c cc own nL ret s args meth) {x : Nat} {off : Int} (hdg : decode cc pc = .ok (.ifnull off, 3)) (K : rx_W p l e R s m args below meth c Q G k nL cells slots h n (pc + 3) L st) : rx_W p l e R s m args below meth c Q G k nL cells slots h n pc L (.ref x :: st) := fun H locs ls hP hS hl => lv_ifnull C.1 C.2.1 hdg (K H locs ls hP hS hl)
theorem rx_ifnullN (C : rx_C G k p m c cc own nL ret s args meth) {off : Int} (hdg : decode cc pc = .ok (.ifnull off, 3)) (tgt : Nat) (ht : (pc : Int) + off = (tgt : Int)) (K : rx_W p l e R s m args below meth c Q G k nL cells slots h n tgt L st) : rx_W p l e R s m args below meth c Q G k nL cells slots h n pc L (.null :: st) := fun H locs ls hP hS hl => lv_ifnullN C.1 C.2.1 hdg ht (K H locs ls hP hS hl)
theorem rx_tableIn (C : rx_C G k p m c cc own nL ret s args meth) {dflt lo hi : Int} {offs : Array Int} {len : Nat} {x : Int32} {off : Int} (hdg : decode cc pc = .ok (.tableswitch dflt lo hi offs, len)) (h1 : ¬ x.toInt < lo) (h2 : ¬ hi < x.toInt) (ho : offs[(x.toInt - lo).toNat]? = some off) (tgt : Nat) (ht : (pc : Int) + off = (tgt : Int)) (K : rx_W p l e R s m args below meth c Q G k nL cells slots h n tgt L st) : rx_W p l e R s m args below meth c Q G k nL cells slots h n pc L (.int x :: st) := fun H locs ls hP hS hl => lv_tableIn C.1 C.2.1 hdg h1 h2 ho ht (K H locs ls hP hS hl)
theorem rx_tableOut (C : rx_C G k p m c cc own nL ret s args meth) {dflt lo hi : Int} {offs : Array Int} {len : Nat} {x : Int32} (hdg : decode cc pc = .ok (.tableswitch dflt lo hi offs, len)) (h1 : x.toInt < lo ∨ hi < x.toInt) (tgt : Nat) (ht : (pc : Int) + dflt = (tgt : Int)) (K : rx_W p l e R s m args below meth c Q G k nL cells slots h n tgt L st) : rx_W p l e R s m args below meth c Q G k nL cells slots h n pc L (.int x :: st) := fun H locs ls hP hS hl => lv_tableOut C.1 C.2.1 hdg h1 ht (K H locs ls hP hS hl)
theorem rx_aload_nN (C : rx_C G k p m c cc own nL ret s args meth) {j : Fin 4} (hdg : decode cc pc = .ok (.aload_n j, 1)) (i : Nat) (hL : L[i]? = some ((j : Nat), .null)) (K : rx_W p l e R s m args below meth c Q G k nL cells slots h n (pc + 1) L (.null :: st)) : rx_W p l e R s m args below meth c Q G k nL cells slots h n pc L st := fun H locs ls hP hS hl => lv_aload_nN C.1 C.2.1 hdg rfl (lv_at hl i hL) (K H locs ls hP hS hl)
theorem rx_astore_nN (C : rx_C G k p m c cc own nL ret s args meth) {j : Fin 4} (hdg : decode cc pc = .ok (.astore_n j, 1)) (hn : (j : Nat) < nL) (L2 : List (Nat × Value)) (hL : ((j : Nat), (Value.null)) :: L.filter (fun q => !(q.1 == (j : Nat)) && !(q.1 + 1 == (j : Nat) && q.2.category == 2)) = L2) (K : rx_W p l e R s m args below meth c Q G k nL cells slots h n (pc + 1) L2 st) : rx_W p l e R s m args below meth c Q G k nL cells slots h n pc L (.null :: st) := fun H locs ls hP hS hl => lv_astore_nN C.1 C.2.1 hdg rfl hl hn hL (fun ls2 hl2 => K H locs ls2 hP hS hl2)
theorem rx_aloadN (C : rx_C G k p m c cc own nL ret s args meth) {j : Nat} (hdg : decode cc pc = .ok (.aload j, 2)) (i : Nat) (hL : L[i]? = some (j, .null)) (K : rx_W p l e R s m args below meth c Q G k nL cells slots h n (pc + 2) L (.null :: st)) : rx_W p l e R s m args below meth c Q G k nL cells slots h n pc L st := fun H locs ls hP hS hl => lv_aloadN C.1 C.2.1 hdg (lv_at hl i hL) (K H locs ls hP hS hl)
theorem rx_astoreN (C : rx_C G k p m c cc own nL ret s args meth) {j : Nat} (hdg : decode cc pc = .ok (.astore j, 2)) (hn : j < nL) (L2 : List (Nat × Value)) (hL : (j, (Value.null)) :: L.filter (fun q => !(q.1 == j) && !(q.1 + 1 == j && q.2.category == 2)) = L2) (K : rx_W p l e R s m args below meth c Q G k nL cells slots h n (pc + 2) L2 st) : rx_W p l e R s m args below meth c Q G k nL cells slots h n pc L (.null :: st) := fun H locs ls hP hS hl => lv_astoreN C.1 C.2.1 hdg hl hn hL (fun ls2 hl2 => K H locs ls2 hP hS hl2)
theorem rx_tableDef (C : rx_C G k p m c cc own nL ret s args meth) {dflt lo hi : Int} {offs : Array Int} {len : Nat} {x : Int32} (hdg : decode cc pc = .ok (.tableswitch dflt lo hi offs, len)) (hsz : (offs.size : Int) = hi - lo + 1) (hd : ∀ off, ¬ x.toInt < lo → ¬ hi < x.toInt → offs[(x.toInt - lo).toNat]? = some off → off = dflt) (tgt : Nat) (ht : (pc : Int) + dflt = (tgt : Int)) (K : rx_W p l e R s m args below meth c Q G k nL cells slots h n tgt L st) : rx_W p l e R s m args below meth c Q G k nL cells slots h n pc L (.int x :: st) := by
  by_cases h1 : x.toInt < lo
  · exact rx_tableOut C hdg (Or.inl h1) tgt ht K
  by_cases h2 : hi < x.toInt
  · exact rx_tableOut C hdg (Or.inr h2) tgt ht K
  have h3 : (x.toInt - lo).toNat < offs.size := by omega
  have h4 := hd _ h1 h2 (Array.getElem?_eq_getElem h3)
  exact rx_tableIn C hdg h1 h2 (Array.getElem?_eq_getElem h3) tgt (by rw [h4]; exact ht) K
end RXR
end
section
/-! Fields, arrays and new cells over the picture. -/
section RXH
variable {p : Program} {l : Launch} {e : Env} {R : Room} {s : State} {m : MethodId} {args : Array Value} {below : List Frame} {meth : Method} {c : Code} {Q : State → Prop} {G : va_G} {k : Nat → Nat} {cc : ByteArray} {own : String} {nL : Nat} {ret : Option FieldType} {cells slots : Nat} {h : hp} {n pc : Nat} {L : List (Nat × Value)} {st : List Value}
theorem rx_getf (C : rx_C G k p m c cc own nL ret s args meth) {index ci j a : Nat} {fs : List Value} {v : Value} (hF : rx_F own index ci j) (hdg : decode cc pc = .ok (.getfield index, 3)) (hh : h a = some (.inr (ci, fs))) (hv : fs[j]? = some v)
    (K : rx_W p l e R s m args below meth c Q G k nL cells slots h n (pc + 3) L (v :: st)) : rx_W p l e R s m args below meth c Q G k nL cells slots h n pc L (.ref a :: st) := fun H locs ls hP hS hl => by
  obtain ⟨Cn, T, N, hc, hin, hj, hlk⟩ := hF
  exact va_get C.1 C.2.1 C.2.2.2.1 hin C.2.2.1 C.2.2.2.2.2.2.2.1.1 (hP.one hh) 0 rfl hc j hj (C.2.2.2.1 _ hlk) (fun _ h9 => h9) hv hdg (K H locs ls hP hS hl)
theorem rx_getfN (C : rx_C G k p m c cc own nL ret s args meth) {index ci j a : Nat} {fs : List Value} {v : Value} (hF : rx_FN own index ci j) (hdg : decode cc pc = .ok (.getfield index, 3)) (hh : h a = some (.inr (ci, fs))) (hv : fs[j]? = some v)
    (K : rx_W p l e R s m args below meth c Q G k nL cells slots h n (pc + 3) L (v :: st)) : rx_W p l e R s m args below meth c Q G k nL cells slots h n pc L (.ref a :: st) := fun H locs ls hP hS hl => by
  obtain ⟨Cn, T, N, host, hc, hin, hj, hlk⟩ := hF
  exact va_getN C.1 C.2.1 C.2.2.2.1 hin C.2.2.1 C.2.2.2.2.2.2.2.1.1 (hP.one hh) 0 rfl hc j hj (va_Nw.use rfl (C.2.2.2.2.2.2.2.1.2.1 _ hlk)) (fun _ h9 => h9) hv hdg (K H locs ls hP hS hl)
/-- an object's field j, with what a store needs of it -/
theorem rx_slot (C : rx_C G k p m c cc own nL ret s args meth) {ci j a : Nat} {fs : List Value} {Cn : String} {T : u_T} {N : Nat} {ty0 : Nat → FieldType} {H : Heap} (hc : vwCl[ci]? = some (Cn, T, N)) (hin : ∀ w ∈ u_ws Cn T N, w ∈ rx_good) (hj : j < N)
    (hty : ∀ i, i < N → parseFieldDescriptor (T i).2.2.1 = some (ty0 i)) (hnm : ∀ a, a < N → ∀ b, b < N → a ≠ b → (T a).2.1 ≠ (T b).2.1) (hat : va_at G vwCl (a, .inr (ci, fs)) H) :
    ∃ (cf : ClassId) (kf : Class) (fi : Nat) (f : Field) (cell : Cell) (kC : Class), s.fieldFound? (T j).1 (T j).2.1 (T j).2.2.1 = some (cf, kf, fi, f) ∧ f.isStatic = false ∧ H[a]? = some cell ∧ cell.vm = .none ∧ f.slot < cell.slots.size ∧ s.vm.findClass Cn = some cell.cls ∧ s.vm.classes[cell.cls]? = some kC ∧ kC.kind = .ordinary ∧
      ∀ (v : Value) (H1 : Heap), j < fs.length → H1[a]? = some (cell.setSlot f.slot v) → va_at G vwCl (a, .inr (ci, fs.set j v)) H1 := by
  have hap := va_apart (own := own) C.2.2.2.1 hin ty0 hty hnm C.2.2.2.2.2.2.2.1.1 hc
  obtain ⟨r, h1, cell, q1, q2, q3, q4⟩ := hat
  obtain rfl : r = (Cn, T, N) := Option.some.inj (h1.symm.trans hc)
  obtain ⟨hsl, hfc, kC, hkC, hkind⟩ := C.2.2.2.2.2.2.2.1.1.1 ci _ hc
  obtain ⟨cf, kf, fi, f, hi, he⟩ := hsl j hj
  have hst := (u_facts hfc hkC (u_lays C.2.2.2.1 hin hj) hi).1
  have q2 : cell.cls = G.1 ci := q2
  refine ⟨cf, kf, fi, f, cell, kC, hi, hst, q1, q3, by rw [he]; exact k2_hasslot (q4 j hj), by rw [q2]; exact hfc, by rw [q2]; exact hkC, hkind, fun v H1 hl e1 => ?_⟩
  rw [he] at e1
  exact ⟨_, hc, t_OB.to (V := updV (vp_V fs) j v) ⟨_, e1, q2, q3, t_set q4 hap hj v⟩ (fun i _ => vp_updV_set hl v i)⟩
theorem rx_putf (C : rx_C G k p m c cc own nL ret s args meth) {index ci j a : Nat} {fs : List Value} {v : Value} {ty : FieldType} (hF : rx_F own index ci j) (hT : rx_FT ci j ty false) (hdg : decode cc pc = .ok (.putfield index, 3)) (hh : h a = some (.inr (ci, fs))) (hl0 : j < fs.length) (hn : narrow ty v = v) (hfit : fits ty v = true)
    (K : rx_W p l e R s m args below meth c Q G k nL cells slots (va_up h a (some (.inr (ci, fs.set j v)))) n (pc + 3) L st) : rx_W p l e R s m args below meth c Q G k nL cells slots h n pc L (v :: .ref a :: st) := fun H locs ls hP hS hl => by
  obtain ⟨Cn, T, N, hc, hin, hj, hlk⟩ := hF
  obtain ⟨Cn', T', N', ty0, hc', hty, hnm, hfin, hd, -⟩ := hT
  cases hc.symm.trans hc'
  obtain ⟨hB, hlt, hat⟩ := hP.2.2 a _ hh
  obtain ⟨cf, kf, fi, f, cell, kC, hi, hst, g1, g2, g3, g4, g5, g6, g7⟩ := rx_slot C hc hin hj hty hnm hat
  have hlay := C.2.2.2.1 _ (hin _ (u_in_lay hj))
  unfold u_lay at hlay
  rw [if_neg (by rw [hfin]; decide)] at hlay
  have h6 := u_store g4 g5 g6 hlay hi hd hn hfit
  exact W.putK C.1 C.2.1 (f := f) ⟨C.2.2.1, C.2.2.2.1 _ hlk, ⟨_, _, _, hi⟩, hst⟩ h6 g1 g2 g3 rfl rfl hdg fun H1 e1 e2 e3 => K H1 _ ls (hP.put hh (g7 v H1 hl0 e1) e2 e3) (hS.put e2 e3 hB) hl
theorem rx_putfN (C : rx_C G k p m c cc own nL ret s args meth) {index ci j a : Nat} {fs : List Value} {v : Value} {ty : FieldType} (hF : rx_FN own index ci j) (hT : rx_FT ci j ty false) (hdg : decode cc pc = .ok (.putfield index, 3)) (hh : h a = some (.inr (ci, fs))) (hl0 : j < fs.length) (hn : narrow ty v = v) (hfit : fits ty v = true)
    (K : rx_W p l e R s m args below meth c Q G k nL cells slots (va_up h a (some (.inr (ci, fs.set j v)))) n (pc + 3) L st) : rx_W p l e R s m args below meth c Q G k nL cells slots h n pc L (v :: .ref a :: st) := fun H locs ls hP hS hl => by
  obtain ⟨Cn, T, N, host, hc, hin, hj, hlk⟩ := hF
  obtain ⟨Cn', T', N', ty0, hc', hty, hnm, hfin, hd, -⟩ := hT
  cases hc.symm.trans hc'
  obtain ⟨hB, hlt, hat⟩ := hP.2.2 a _ hh
  obtain ⟨cf, kf, fi, f, cell, kC, hi, hst, g1, g2, g3, g4, g5, g6, g7⟩ := rx_slot C hc hin hj hty hnm hat
  have hlay := C.2.2.2.1 _ (hin _ (u_in_lay hj))
  unfold u_lay at hlay
  rw [if_neg (by rw [hfin]; decide)] at hlay
  have h6 := u_store g4 g5 g6 hlay hi hd hn hfit
  exact va_WputK C.1 C.2.1 (f := f) C.2.2.1 (va_Nw.use rfl (C.2.2.2.2.2.2.2.1.2.1 _ hlk)) hi hst h6 g1 g2 g3 rfl rfl hdg fun H1 e1 e2 e3 => K H1 _ ls (hP.put hh (g7 v H1 hl0 e1) e2 e3) (hS.put e2 e3 hB) hl
/-- a final field, in a constructor of its class -/
theorem rx_putfF (C : rx_C G k p m c cc own nL ret s args meth) {index ci j a : Nat} {fs : List Value} {v : Value} {ty : FieldType} (hF : rx_F own index ci j) (hT : rx_FT ci j ty true) (hown : ∃ (T : u_T) (N : Nat), vwCl[ci]? = some (own, T, N)) (hin9 : meth.name = "<init>") (hdg : decode cc pc = .ok (.putfield index, 3)) (hh : h a = some (.inr (ci, fs))) (hl0 : j < fs.length) (hn : narrow ty v = v) (hfit : fits ty v = true)
    (K : rx_W p l e R s m args below meth c Q G k nL cells slots (va_up h a (some (.inr (ci, fs.set j v)))) n (pc + 3) L st) : rx_W p l e R s m args below meth c Q G k nL cells slots h n pc L (v :: .ref a :: st) := fun H locs ls hP hS hl => by
  obtain ⟨Cn, T, N, hc, hin, hj, hlk⟩ := hF
  obtain ⟨Cn', T', N', ty0, hc', hty, hnm, hfin, hd, hdecl⟩ := hT
  obtain ⟨T2, N2, hc2⟩ := hown
  cases hc.symm.trans hc'
  cases hc.symm.trans hc2
  obtain ⟨hB, hlt, hat⟩ := hP.2.2 a _ hh
  obtain ⟨cf, kf, fi, f, cell, kC, hi, hst, g1, g2, g3, g4, g5, g6, g7⟩ := rx_slot C hc hin hj hty hnm hat
  have hlay := C.2.2.2.1 _ (hin _ (u_in_lay hj))
  unfold u_lay at hlay
  rw [if_pos hfin] at hlay
  have hcf : m.cls = cf := by
    obtain ⟨_, _, c', _, _, _, -, -, hf', -, -, -, hown2, -⟩ := Cond.laysFinal_spec hlay
    have e1 : c' = cf := by have := hi.symm.trans hf'; simp at this; exact this.1.symm
    rw [hdecl rfl] at hown2
    rw [← e1]
    exact Option.some.inj (C.2.2.1.symm.trans hown2)
  have h6 := u_fits g4 g5 g6 (Or.inr hlay) hi hd hn hfit
  exact W.putFinK C.1 C.2.1 C.2.2.1 (C.2.2.2.1 _ hlk) hi hst hcf hin9 (by rw [← g2] at h6; rw [g2] at h6; exact h6) g1 g2 g3 rfl rfl hdg fun H1 e1 e2 e3 => K H1 _ ls (hP.put hh (g7 v H1 hl0 e1) e2 e3) (hS.put e2 e3 hB) hl
end RXH
end
section
abbrev rx_ia (k : Nat → Nat) (len : Nat) (f : Nat → Int32) : va_E := .inl (k 1, len, .inl f)
abbrev rx_qa (cA : Nat) (len : Nat) (f : Nat → Option Nat) : va_E := .inl (cA, len, .inr (.inr (.inr (.inr f))))
section RXA
variable {p : Program} {l : Launch} {e : Env} {R : Room} {s : State} {m : MethodId} {args : Array Value} {below : List Frame} {meth : Method} {c : Code} {Q : State → Prop} {G : va_G} {k : Nat → Nat} {cc : ByteArray} {own : String} {nL : Nat} {ret : Option FieldType} {cells slots : Nat} {h : hp} {n pc : Nat} {L : List (Nat × Value)} {st : List Value}
theorem rx_iald (C : rx_C G k p m c cc own nL ret s args meth) {a len : Nat} {f : Nat → Int32} {i : Int32} (hdg : decode cc pc = .ok (.iaload, 1)) (hh : h a = some (rx_ia k len f)) (hin : vp_in i len)
    (K : rx_W p l e R s m args below meth c Q G k nL cells slots h n (pc + 1) L (.int (f i.toNatClampNeg) :: st)) : rx_W p l e R s m args below meth c Q G k nL cells slots h n pc L (.int i :: .ref a :: st) := fun H locs ls hP hS hl =>
  va_iald C.1 C.2.1 C.2.2.2.2.2.2.2.1.1 (hP.one hh) 0 0 rfl rfl hin hdg (K H locs ls hP hS hl)
theorem rx_qaldP (C : rx_C G k p m c cc own nL ret s args meth) {a len : Nat} {f : Nat → Option Nat} {i : Int32} (hdg : decode cc pc = .ok (.aaload, 1)) (hh : h a = some (rx_qa (k 3) len f)) (hin : vp_in i len)
    (K : rx_W p l e R s m args below meth c Q G k nL cells slots h n (pc + 1) L (va_rf (f i.toNatClampNeg) :: st)) : rx_W p l e R s m args below meth c Q G k nL cells slots h n pc L (.int i :: .ref a :: st) := fun H locs ls hP hS hl =>
  va_aldq C.1 C.2.1 C.2.2.2.2.2.2.2.1.1 (hP.one hh) 0 2 rfl rfl hin hdg (K H locs ls hP hS hl)
theorem rx_qaldV (C : rx_C G k p m c cc own nL ret s args meth) {a len : Nat} {f : Nat → Option Nat} {i : Int32} (hdg : decode cc pc = .ok (.aaload, 1)) (hh : h a = some (rx_qa (k 4) len f)) (hin : vp_in i len)
    (K : rx_W p l e R s m args below meth c Q G k nL cells slots h n (pc + 1) L (va_rf (f i.toNatClampNeg) :: st)) : rx_W p l e R s m args below meth c Q G k nL cells slots h n pc L (.int i :: .ref a :: st) := fun H locs ls hP hS hl =>
  va_aldq C.1 C.2.1 C.2.2.2.2.2.2.2.1.1 (hP.one hh) 0 3 rfl rfl hin hdg (K H locs ls hP hS hl)
theorem rx_alen (C : rx_C G k p m c cc own nL ret s args meth) {a : Nat} {x : vp_A} (t0 : Nat) {cA : Nat} {ty : FieldType} (ht : (rx_tys k)[t0]? = some (cA, ty)) (hdg : decode cc pc = .ok (.arraylength, 1)) (hh : h a = some (.inl (cA, x)))
    (K : rx_W p l e R s m args below meth c Q G k nL cells slots h n (pc + 1) L (.int (nI x.1) :: st)) : rx_W p l e R s m args below meth c Q G k nL cells slots h n pc L (.ref a :: st) := fun H locs ls hP hS hl =>
  va_alen C.1 C.2.1 C.2.2.2.2.2.2.2.1.1 (hP.one hh) 0 t0 rfl ht rfl hdg (K H locs ls hP hS hl)
theorem rx_iast (C : rx_C G k p m c cc own nL ret s args meth) {a len : Nat} {f : Nat → Int32} {i x : Int32} (hdg : decode cc pc = .ok (.iastore, 1)) (hh : h a = some (rx_ia k len f)) (hin : vp_in i len)
    (K : rx_W p l e R s m args below meth c Q G k nL cells slots (va_up h a (some (rx_ia k len (upd f i.toNatClampNeg x)))) n (pc + 1) L st) : rx_W p l e R s m args below meth c Q G k nL cells slots h n pc L (.int x :: .int i :: .ref a :: st) := fun H locs ls hP hS hl => by
  obtain ⟨hB, hlt, hat⟩ := hP.2.2 a _ hh
  refine W.iast C.1 C.2.1 (show H[a]? = some (vp_cell _ _) from hat) ((C.2.2.2.2.2.2.2.1.1.2 0 _ rfl).1 len (fun j => .int (f j))) (fun q => by cases q) (by show ¬ (i < 0 ∨ (arrV _ _ _).slots.size ≤ _); rw [arrV_size]; exact hin) rfl rfl hdg fun H1 e1 z oq => ?_
  refine K H1 _ ls (hP.put hh ?_ z oq) (hS.put z oq hB) hl
  show H1[a]? = some (vp_cell _ _)
  rw [e1, vp_cell_i, vp_cell_i, arrV_store]
  congr 2
  funext q
  by_cases hq : q = i.toNatClampNeg
  · subst hq
    simp [updV, upd]
  · simp [updV, upd, hq]
/-- a Position into an array of Positions -/
theorem rx_qastP (C : rx_C G k p m c cc own nL ret s args meth) {a v len : Nat} {vs : List Value} {f : Nat → Option Nat} {i : Int32} (hdg : decode cc pc = .ok (.aastore, 1)) (hh : h a = some (rx_qa (k 3) len f)) (hv : h v = some (.inr (1, vs))) (hin : vp_in i len)
    (K : rx_W p l e R s m args below meth c Q G k nL cells slots (va_up h a (some (rx_qa (k 3) len (va_up f i.toNatClampNeg (some v))))) n (pc + 1) L st) : rx_W p l e R s m args below meth c Q G k nL cells slots h n pc L (.ref v :: .int i :: .ref a :: st) := fun H locs ls hP hS hl => by
  have hlt : i.toNatClampNeg < len := Nat.not_le.mp fun q => hin (Or.inr q)
  have h0 : ¬ i < 0 := fun q => hin (Or.inl q)
  obtain ⟨hB, -, hat⟩ := hP.2.2 a _ hh
  obtain ⟨-, -, r', hr', cellV, g1, g2, g3, -⟩ := hP.2.2 v _ hv
  have hcls := (C.2.2.2.2.2.2.2.1.1.1 1 (RX2, TX2, 15) rfl).2
  obtain ⟨kA, comp, k1, k2, k3, -⟩ := (C.2.2.2.2.2.2.2.1.1.2 2 _ rfl).2
  have hcomp : comp = G.1 1 := Option.some.inj (k3.symm.trans hcls.1)
  subst hcomp
  obtain ⟨kC, hkC, -⟩ := hcls.2
  refine W.aast C.1 C.2.1 (show H[a]? = some (vp_cell _ _) from hat) (fun q h => by cases h) (fun h => by cases h) k1 k2 rfl hkC ⟨h0, by show _ < (arrV _ _ _).slots.size; rw [arrV_size]; exact hlt⟩ g1 (fun q h => by rw [g3] at h; cases h) (by rw [g2]; exact hkC) (by rw [g2]; exact va_assign hcls) rfl rfl hdg fun H1 e1 z oq => ?_
  refine K H1 _ ls (hP.put hh ?_ z oq) (hS.put z oq hB) hl
  show H1[a]? = some (vp_cell _ _)
  rw [e1, vp_cell_q, vp_cell_q, arrV_store]
  congr 2
  funext q
  by_cases hq : q = i.toNatClampNeg
  · subst hq
    simp [updV, va_up, va_rf]
  · simp [updV, va_up, hq]
/-- a verb into an array of verbs -/
theorem rx_qastV (C : rx_C G k p m c cc own nL ret s args meth) {a z0 len : Nat} {f : Nat → Option Nat} {i : Int32} (hdg : decode cc pc = .ok (.aastore, 1)) (hh : h a = some (rx_qa (k 4) len f)) (hz : z0 < 9) (hin : vp_in i len) (hcls : ∃ cC, ClassAt s RX7 cC)
    (K : rx_W p l e R s m args below meth c Q G k nL cells slots (va_up h a (some (rx_qa (k 4) len (va_up f i.toNatClampNeg (some (k (10 + z0))))))) n (pc + 1) L st) : rx_W p l e R s m args below meth c Q G k nL cells slots h n pc L (.ref (k (10 + z0)) :: .int i :: .ref a :: st) := fun H locs ls hP hS hl => by
  have hlt : i.toNatClampNeg < len := Nat.not_le.mp fun q => hin (Or.inr q)
  have h0 : ¬ i < 0 := fun q => hin (Or.inl q)
  obtain ⟨hB, -, hat⟩ := hP.2.2 a _ hh
  obtain ⟨cellV, g1, g3, g2, -⟩ := ((C.2.2.2.2.2.2.2.2.2.1 z0 hz).2.1).kept hS.2.1
  obtain ⟨cC, hcC⟩ := hcls
  obtain ⟨kA, comp, k1, k2, k3, -⟩ := (C.2.2.2.2.2.2.2.1.1.2 3 _ rfl).2
  have hcomp : comp = cC := Option.some.inj (k3.symm.trans hcC.1)
  subst hcomp
  have hcv : cellV.cls = comp := Option.some.inj (g2.symm.trans hcC.1)
  obtain ⟨kC, hkC, -⟩ := hcC.2
  refine W.aast C.1 C.2.1 (show H[a]? = some (vp_cell _ _) from hat) (fun q h => by cases h) (fun h => by cases h) k1 k2 rfl hkC ⟨h0, by show _ < (arrV _ _ _).slots.size; rw [arrV_size]; exact hlt⟩ g1 (fun q h => by rw [h] at g3; cases g3) (by rw [hcv]; exact hkC) (by rw [hcv]; exact va_assign hcC) rfl rfl hdg fun H1 e1 z oq => ?_
  refine K H1 _ ls (hP.put hh ?_ z oq) (hS.put z oq hB) hl
  show H1[a]? = some (vp_cell _ _)
  rw [e1, vp_cell_q, vp_cell_q, arrV_store]
  congr 2
  funext q
  by_cases hq : q = i.toNatClampNeg
  · subst hq
    simp [updV, va_up, va_rf]
  · simp [updV, va_up, hq]
end RXA
end
section
section RXN
variable {p : Program} {l : Launch} {e : Env} {R : Room} {s : State} {m : MethodId} {args : Array Value} {below : List Frame} {meth : Method} {c : Code} {Q : State → Prop} {G : va_G} {k : Nat → Nat} {cc : ByteArray} {own : String} {nL : Nat} {ret : Option FieldType} {cells slots : Nat} {h : hp} {n pc : Nat} {L : List (Nat × Value)} {st : List Value}
theorem rx_grow {A : Nat → Prop} {H0 H H1 : Heap} {locs : List Loc} (hS : va_S A H0 H locs) (z : H1.size = H.size + 1) (o : ∀ q, q < H.size → H1[q]? = H[q]?) : va_S A H0 H1 locs := ⟨Nat.le_trans hS.1 (by omega), fun x h1 h2 => (o x (Nat.lt_of_lt_of_le h1 hS.1)).trans (hS.2.1 x h1 h2), hS.2.2⟩
theorem rx_new (C : rx_C G k p m c cc own nL ret s args meth) {index ci N : Nat} {fs : List Value} (hN : rx_N own index ci N fs) (hdg : decode cc pc = .ok (.new index, 3)) (hcells : cells + 1 ≤ R.cells) (hslots : slots + N ≤ R.slots)
    (K : rx_W p l e R s m args below meth c Q G k nL (cells + 1) (slots + N) (va_up h n (some (.inr (ci, fs)))) (n + 1) (pc + 3) L (.ref n :: st)) : rx_W p l e R s m args below meth c Q G k nL cells slots h n pc L st := fun H locs ls hP hS hl => by
  obtain ⟨Cn, T, ty0, hc, hin, hty, hlk, hins, hini, hfs⟩ := hN
  have hKn := C.2.2.2.2.2.2.2.1.1.1 ci _ hc
  have hz : H.size = n := hP.1
  subst hz
  refine W.newcK C.1 C.2.1 C.2.2.1 (C.2.2.2.1 _ hlk) (C.2.2.2.1 _ hins) (C.2.2.2.1 _ hini) rfl hdg hcells hslots hKn.2.1 rfl fun H1 kC hkC e1 z1 o1 => ?_
  exact K H1 locs ls (hP.new ⟨_, hc, (u_born ty0 C.2.2.2.1 hin hKn hkC e1 hty).to hfs⟩ z1 o1) (rx_grow hS z1 o1) hl
theorem rx_newi (C : rx_C G k p m c cc own nL ret s args meth) {v : Int32} (len : Nat) (harr : Cond.arrayClass .int ∈ rx_good) (hdg : decode cc pc = .ok (.newarray .int, 2)) (hv : ¬ v < 0) (hlen : v.toNatClampNeg = len) (hb : len * 4 ≤ 536870912) (hcells : cells + 1 ≤ R.cells) (hslots : slots + len ≤ R.slots)
    (K : rx_W p l e R s m args below meth c Q G k nL (cells + 1) (slots + len) (va_up h n (some (rx_ia k len (fun _ => 0)))) (n + 1) (pc + 2) L (.ref n :: st)) : rx_W p l e R s m args below meth c Q G k nL cells slots h n pc L (.int v :: st) := fun H locs ls hP hS hl => by
  have hz : H.size = n := hP.1
  subst hz
  refine va_newaK (atype := .int) C.1 C.2.1 (C.2.2.2.1 _ harr) rfl hdg rfl hv hlen hb hcells hslots rfl fun H1 cA e1 z1 o1 hAr hNm => ?_
  have hk1 : s.vm.findClass ("[" ++ (FieldType.int).toString) = some (k 1) := (C.2.2.2.2.2.2.2.1.1.2 0 _ rfl).2
  have hcA : cA = k 1 := Option.some.inj (hNm.symm.trans hk1)
  subst hcA
  refine K H1 locs ls (hP.new ?_ z1 o1) (rx_grow hS z1 o1) hl
  show H1[H.size]? = some (vp_cell _ _)
  rw [vp_cell_i]
  exact e1
/-- an array of references to class Cn, whose array class is k kk -/
theorem rx_newq (C : rx_C G k p m c cc own nL ret s args meth) {index : Nat} {v : Int32} (len kk t0 : Nat) {Cn : String} (ht : (rx_tys k)[t0]? = some (k kk, .object Cn)) (hlk : Cond.classLink own index Cn ∈ rx_good) (hover : va_AO Cn s) (hdg : decode cc pc = .ok (.anewarray index, 3)) (hv : ¬ v < 0) (hlen : v.toNatClampNeg = len) (hb : len * 4 ≤ 536870912) (hcells : cells + 1 ≤ R.cells) (hslots : slots + len ≤ R.slots)
    (K : rx_W p l e R s m args below meth c Q G k nL (cells + 1) (slots + len) (va_up h n (some (rx_qa (k kk) len (fun _ => none)))) (n + 1) (pc + 3) L (.ref n :: st)) : rx_W p l e R s m args below meth c Q G k nL cells slots h n pc L (.int v :: st) := fun H locs ls hP hS hl => by
  have hz : H.size = n := hP.1
  subst hz
  subst hlen
  refine W.anew C.1 C.2.1 C.2.2.1 (C.2.2.2.1 _ hlk) (va_AO.use hover) rfl hdg rfl hv hb hcells hslots fun cA kA comp f1 f2 f3 f4 => ?_
  generalize hH1 : H.push ({ cls := cA, slots := Array.replicate v.toNatClampNeg .null, vm := .none } : Cell) = H1
  have z1 : H1.size = H.size + 1 := by rw [← hH1, Array.size_push]
  have e1 : H1[H.size]? = some (arrV cA v.toNatClampNeg (fun _ => .null)) := by rw [← hH1, Array.getElem?_push_size, ← arrV_new]
  have o1 : ∀ q : Nat, q < H.size → H1[q]? = H[q]? := fun q hq => by rw [← hH1, Array.getElem?_push, if_neg (Nat.ne_of_lt hq)]
  obtain ⟨kA', comp', g1, g2, g3, g4⟩ := (C.2.2.2.2.2.2.2.1.1.2 t0 _ ht).2
  have hcA : cA = k kk := by
    have h4 := f1.symm.trans g4
    exact Option.some.inj h4
  subst hcA
  refine K H1 locs ls (hP.new ?_ z1 o1) (rx_grow hS z1 o1) hl
  show H1[H.size]? = some (vp_cell _ _)
  rw [vp_cell_q]
  exact e1
/-- static fields that stay, and tables that lie below -/
theorem rx_gets (C : rx_C G k p m c cc own nL ret s args meth) {Cn fn d : String} {v : Value} {index : Nat} (hZ : va_Z Cn fn d v (fun q => k 0 ≤ q) s s.heap) (hlk : Cond.fieldLink own index Cn fn d ∈ rx_good) (hdg : decode cc pc = .ok (.getstatic index, 3))
    (K : rx_W p l e R s m args below meth c Q G k nL cells slots h n (pc + 3) L (v :: st)) : rx_W p l e R s m args below meth c Q G k nL cells slots h n pc L st := fun H locs ls hP hS hl =>
  va_gets C.1 C.2.1 hZ hS C.2.2.1 (C.2.2.2.1 _ hlk) (fun _ h9 => h9) hdg (K H locs ls hP hS hl)
theorem rx_getsN (C : rx_C G k p m c cc own nL ret s args meth) {Cn fn d host : String} {v : Value} {index : Nat} (hZ : va_Z Cn fn d v (fun q => k 0 ≤ q) s s.heap) (hlk : Cond.fieldLinkNest own index Cn fn d host ∈ rx_nest) (hdg : decode cc pc = .ok (.getstatic index, 3))
    (K : rx_W p l e R s m args below meth c Q G k nL cells slots h n (pc + 3) L (v :: st)) : rx_W p l e R s m args below meth c Q G k nL cells slots h n pc L st := fun H locs ls hP hS hl =>
  va_getsN C.1 C.2.1 hZ hS C.2.2.1 (va_Nw.use rfl (C.2.2.2.2.2.2.2.1.2.1 _ hlk)) (fun _ h9 => h9) hdg (K H locs ls hP hS hl)
theorem rx_ti (C : rx_C G k p m c cc own nL ret s args meth) {t len : Nat} {f : Nat → Value} (hT : va_T .int t len f (fun q => k 0 ≤ q) s s.heap) {i : Int32} {v : Value} (hdg : decode cc pc = .ok (.iaload, 1)) (hin : vp_in i len) (hv : f i.toNatClampNeg = v)
    (K : rx_W p l e R s m args below meth c Q G k nL cells slots h n (pc + 1) L (v :: st)) : rx_W p l e R s m args below meth c Q G k nL cells slots h n pc L (.int i :: .ref t :: st) := fun H locs ls hP hS hl =>
  va_ti C.1 C.2.1 hT hS hin hv hdg (K H locs ls hP hS hl)
theorem rx_tb (C : rx_C G k p m c cc own nL ret s args meth) {t len : Nat} {f : Nat → Value} (hT : va_T .byte t len f (fun q => k 0 ≤ q) s s.heap) {i : Int32} {v : Value} (hdg : decode cc pc = .ok (.baload, 1)) (hin : vp_in i len) (hv : f i.toNatClampNeg = v)
    (K : rx_W p l e R s m args below meth c Q G k nL cells slots h n (pc + 1) L (v :: st)) : rx_W p l e R s m args below meth c Q G k nL cells slots h n pc L (.int i :: .ref t :: st) := fun H locs ls hP hS hl =>
  va_tb C.1 C.2.1 hT hS hin hv hdg (K H locs ls hP hS hl)
theorem rx_tlen (C : rx_C G k p m c cc own nL ret s args meth) {t len : Nat} {ty : FieldType} {f : Nat → Value} (hT : va_T ty t len f (fun q => k 0 ≤ q) s s.heap) (hdg : decode cc pc = .ok (.arraylength, 1))
    (K : rx_W p l e R s m args below meth c Q G k nL cells slots h n (pc + 1) L (.int (nI len) :: st)) : rx_W p l e R s m args below meth c Q G k nL cells slots h n pc L (.ref t :: st) := fun H locs ls hP hS hl =>
  va_tlen C.1 C.2.1 hT hS rfl hdg (K H locs ls hP hS hl)
/-- a field of an object that lies below -/
theorem rx_getO (C : rx_C G k p m c cc own nL ret s args meth) {o fn d : String} {q index : Nat} {v : Value} (hE : va_OF o fn d v q (fun q => k 0 ≤ q) s s.heap) (hlk : Cond.fieldLink own index o fn d ∈ rx_good) (hdg : decode cc pc = .ok (.getfield index, 3))
    (K : rx_W p l e R s m args below meth c Q G k nL cells slots h n (pc + 3) L (v :: st)) : rx_W p l e R s m args below meth c Q G k nL cells slots h n pc L (.ref q :: st) := fun H locs ls hP hS hl =>
  vk_getf C.1 C.2.1 hE hS C.2.2.1 (C.2.2.2.1 _ hlk) (fun _ h9 => h9) hdg (K H locs ls hP hS hl)
theorem rx_getON (C : rx_C G k p m c cc own nL ret s args meth) {o fn d host : String} {q index : Nat} {v : Value} (hE : va_OF o fn d v q (fun q => k 0 ≤ q) s s.heap) (hlk : Cond.fieldLinkNest own index o fn d host ∈ rx_nest) (hdg : decode cc pc = .ok (.getfield index, 3))
    (K : rx_W p l e R s m args below meth c Q G k nL cells slots h n (pc + 3) L (v :: st)) : rx_W p l e R s m args below meth c Q G k nL cells slots h n pc L (.ref q :: st) := fun H locs ls hP hS hl => by
  obtain ⟨cf, kf, fi, f, cell, h1, h2, h3, h4, h5, h6⟩ := hE.kept hS.2.1
  exact va_Wgetf C.1 C.2.1 C.2.2.1 (va_Nw.use rfl (C.2.2.2.2.2.2.2.1.2.1 _ hlk)) h1 h2 h3 h4 (v := v) h5 rfl rfl hdg (K H locs ls hP hS hl)
theorem rx_ldcS (C : rx_C G k p m c cc own nL ret s args meth) {tx : String} {index t : Nat} (hm : (own, index, tx, t) ∈ rx_sr) (hdg : decode cc pc = .ok (.ldc index, 2))
    (K : rx_W p l e R s m args below meth c Q G k nL cells slots h n (pc + 2) L (.ref (k (100 + t)) :: st)) : rx_W p l e R s m args below meth c Q G k nL cells slots h n pc L st := fun H locs ls hP hS hl =>
  va_ldcS C.1 C.2.1 C.2.2.1 (C.2.2.2.2.2.2.2.2.1 _ hm) hdg (K H locs ls hP hS hl)
theorem rx_ldcw (C : rx_C G k p m c cc own nL ret s args meth) {index : Nat} {v : Int32} (hlk : Cond.constant own index v ∈ rx_good) (hdg : decode cc pc = .ok (.ldc index, 2))
    (K : rx_W p l e R s m args below meth c Q G k nL cells slots h n (pc + 2) L (.int v :: st)) : rx_W p l e R s m args below meth c Q G k nL cells slots h n pc L st := fun H locs ls hP hS hl =>
  lv_ldc C.1 C.2.1 C.2.2.1 (C.2.2.2.1 _ hlk) hdg (K H locs ls hP hS hl)
end RXN
end
section
/-! Calls, starts and ends over the picture. -/
theorem rx_blind {G : va_G} {k : Nat → Nat} {h : hp} {n : Nat} {av : List Value} : FrameBlind (va_Pc av (rx_G G k h n)) := fun a U g mk q => by
  obtain ⟨q0, qP, qV, qT, qS⟩ := q
  exact ⟨q0, qP, rx_V.same (u := U) (U := U.calling g mk a) rfl qV, rx_T.same (u := U) (U := U.calling g mk a) rfl qT, rx_S.moved (u := U) (U := U.calling g mk a) (Vm.Alike.refl U.vm) qS⟩
abbrev rx_A (k : Nat → Nat) : Nat → Prop := fun q => k 0 ≤ q
abbrev rx_B (G : va_G) (k : Nat → Nat) : hp × Nat → State → Prop := fun u t => rx_P G (k 0) u.1 u.2 t.heap
section RXC
variable {p : Program} {l : Launch} {e : Env} {R : Room} {s : State} {m : MethodId} {args : Array Value} {below : List Frame} {meth : Method} {c : Code} {Q : State → Prop} {G : va_G} {k : Nat → Nat} {cc : ByteArray} {own : String} {nL : Nat} {ret : Option FieldType} {cells slots : Nat} {h : hp} {n pc : Nat} {L : List (Nat × Value)} {st : List Value}
def rx_Run (p : Program) (l : Launch) (e : Env) (R : Room) (s : State) (m : MethodId) (args : Array Value) (below : List Frame) (meth : Method) (c : Code) (G : va_G) (k : Nat → Nat) (nL cells slots mc ms : Nat) (h : hp) (n pc : Nat) (L : List (Nat × Value)) (st rest : List Value) (Qa : State → Outcome → State → Prop) : Prop :=
  ∀ (H : Heap) (locs : List Loc) (ls : Array Slot), rx_P G (k 0) h n H → va_S (fun q => k 0 ≤ q) s.heap H locs → lv_has ls nL L → va_Run p l e R s m args below meth c H locs cells slots mc ms (F0 m pc ls st) rest Qa (rx_A k)
theorem rx_fix (C : rx_C G k p m c cc own nL ret s args meth) : CallFix p m c cc nL s args rx_good own := ⟨C.1, C.2.1, C.2.2.2.2.1, C.2.2.1, C.2.2.2.1⟩
theorem rx_pre (C : rx_C G k p m c cc own nL ret s args meth) {H : Heap} {locs : List Loc} (hP : rx_P G (k 0) h n H) (hS : va_S (fun q => k 0 ≤ q) s.heap H locs) (av : List Value) : ∀ U : State, U.heap = H → s.WarmedH U.vm → va_Pc av (rx_G G k h n) av.toArray U := fun U hU hW =>
  ⟨rfl, by rw [hU]; exact hP, rx_V.warm hW C.2.2.2.2.2.2.2.1, rx_T.warm hW C.2.2.2.2.2.2.2.2.1, by rw [hU]; exact rx_S.moved hW.alike (C.2.2.2.2.2.2.2.2.2.kept hS.2.1)⟩
theorem rx_recv (C : rx_C G k p m c cc own nL ret s args meth) {H : Heap} (hP : rx_P G (k 0) h n H) {b ci : Nat} {fs : List Value} (hb : h b = some (.inr (ci, fs))) {Cn : String} {T : u_T} {N : Nat} (hc : vwCl[ci]? = some (Cn, T, N)) : ∃ cellB : Cell, H[b]? = some cellB ∧ cellB.vm.isStatics = false ∧ s.vm.findClass Cn = some cellB.cls :=
  va_recv C.2.2.2.2.2.2.2.1.1 (hP.one hb) (q0 := 0) hc rfl
/-- an object that lies below -/
theorem rx_recvO (C : rx_C G k p m c cc own nL ret s args meth) {H : Heap} {locs : List Loc} (hS : va_S (fun q => k 0 ≤ q) s.heap H locs) {q : Nat} {E : String} (hO : va_O E q (fun q => k 0 ≤ q) s s.heap) : ∃ cellB : Cell, H[q]? = some cellB ∧ cellB.vm.isStatics = false ∧ s.vm.findClass E = some cellB.cls := by
  obtain ⟨cell, h1, h2, h3, -⟩ := hO.kept hS.2.1
  exact ⟨cell, h1, h2, h3⟩
/-- the room that a call wants -/
abbrev rx_R (rm R : Room) (mc ms maxL cells slots : Nat) : Prop := (rm.cells = mc ∧ rm.slots = ms) ∧ (rm.frames + 1 ≤ R.frames ∧ 8 + (maxL + 11) + rm.locals ≤ R.locals) ∧ (cells + mc ≤ R.cells ∧ slots + ms ≤ R.slots)
variable {y : MethodName} {bytes : ByteArray} {maxL mc ms index b np : Nat} {rt : Option FieldType} {rm : Room} {Qc : Array Value → State → Outcome → State → Prop} {As rest : List Value}
/-- the receiver: of the picture, or below it -/
def rx_Rc (k : Nat → Nat) (s : State) (h : hp) (b : Nat) (cls : String) : Prop := (∃ (ci : Nat) (fs : List Value) (T : u_T) (N : Nat), h b = some (.inr (ci, fs)) ∧ vwCl[ci]? = some (cls, T, N)) ∨ va_O cls b (fun q => k 0 ≤ q) s s.heap
theorem rx_Rc.use (C : rx_C G k p m c cc own nL ret s args meth) {H : Heap} {locs : List Loc} (hP : rx_P G (k 0) h n H) (hS : va_S (fun q => k 0 ≤ q) s.heap H locs) {cls : String} (hr : rx_Rc k s h b cls) : ∃ cellB : Cell, H[b]? = some cellB ∧ cellB.vm.isStatics = false ∧ s.vm.findClass cls = some cellB.cls := by
  rcases hr with ⟨ci, fs, T, N, h1, h2⟩ | hO
  · exact rx_recv C hP h1 h2
  · exact rx_recvO C hS hO
theorem rx_rV (C : rx_C G k p m c cc own nL ret s args meth) (hM : Met l y (rx_ws y bytes maxL rt) rm (va_Pc (.ref b :: As) (rx_G G k h n)) Qc mc ms (rx_A k)) (hY : rx_Y y bytes maxL rt np) (hV : rx_YV y) (hlk : Cond.methodLink own index y ∈ rx_good) (hb : rx_Rc k s h b y.cls) (hR : rx_R rm R mc ms maxL cells slots) (hn : As.length = np) (hst : st = As.reverse ++ .ref b :: rest) (hcat : (rest.map fun v => v.category).sum ≤ 8) (hdg : decode cc pc = .ok (.invokevirtual index, 3)) :
    rx_Run p l e R s m args below meth c G k nL cells slots mc ms h n pc L st rest (Qc (Value.ref b :: As).toArray) := fun H locs ls hP hS hl => by
  refine va_runV (rx_fix C) hM (C := y.cls) (cwV np C.2.2.2.1 (rx_goodIn fun w hw => ?_) rfl hR.1.1 hR.1.2 ⟨rfl, hY.2.2⟩ hR.2.1) ⟨rx_blind, rx_Rc.use C hP hS hb, rx_pre C hP hS _⟩ rfl hn hl.1 hst (lv_room hcat) hdg hR.2.2
  simp only [wsV, rx_ws, List.mem_append, List.mem_cons, List.not_mem_nil, or_false] at hw
  rcases hw with (rfl | rfl | rfl | rfl) | rfl | hw
  · exact hlk
  · exact hV.1
  · exact hV.2
  · exact hY.2.1
  · exact hY.1
  · exact hw
theorem rx_rVN (C : rx_C G k p m c cc own nL ret s args meth) (hM : Met l y (rx_ws y bytes maxL rt) rm (va_Pc (.ref b :: As) (rx_G G k h n)) Qc mc ms (rx_A k)) (hY : rx_Y y bytes maxL rt np) (hV : rx_YV y) {host : String} (hlk : Cond.methodLinkNest own index y host ∈ rx_nest) (hb : rx_Rc k s h b y.cls) (hR : rx_R rm R mc ms maxL cells slots) (hn : As.length = np) (hst : st = As.reverse ++ .ref b :: rest) (hcat : (rest.map fun v => v.category).sum ≤ 8) (hdg : decode cc pc = .ok (.invokevirtual index, 3)) :
    rx_Run p l e R s m args below meth c G k nL cells slots mc ms h n pc L st rest (Qc (Value.ref b :: As).toArray) := fun H locs ls hP hS hl =>
  va_runVN (rx_fix C) hM ⟨va_cnB np C.2.2.2.1 (rx_goodWs hY.1) rfl hR.1.1 hR.1.2 (C.2.2.2.2.2.2.2.1.2.1 _ hlk) (C.2.2.2.1 _ hY.2.1) hY.2.2 hR.2.1, C.2.2.2.1 _ hV.1, C.2.2.2.1 _ hV.2⟩ ⟨rx_blind, rx_Rc.use C hP hS hb, rx_pre C hP hS _⟩ rfl hn hl.1 hst (lv_room hcat) hdg hR.2.2
theorem rx_rS (C : rx_C G k p m c cc own nL ret s args meth) (hM : Met l y (rx_ws y bytes maxL rt) rm (va_Pc As (rx_G G k h n)) Qc mc ms (rx_A k)) (hY : rx_Y y bytes maxL rt np) (hSt : Cond.static y ∈ rx_good) (hlk : Cond.methodLink own index y ∈ rx_good) (hR : rx_R rm R mc ms maxL cells slots) (hn : As.length = np) (hst : st = As.reverse ++ rest) (hcat : (rest.map fun v => v.category).sum ≤ 8) (hdg : decode cc pc = .ok (.invokestatic index, 3)) :
    rx_Run p l e R s m args below meth c G k nL cells slots mc ms h n pc L st rest (Qc As.toArray) := fun H locs ls hP hS hl =>
  va_runS (rx_fix C) hM ⟨callB_of np C.2.2.2.1 (rx_goodWs hY.1) rfl hR.1.1 hR.1.2 (C.2.2.2.1 _ hY.2.1) (C.2.2.2.1 _ hlk) hY.2.2 hR.2.1, C.2.2.2.1 _ hSt⟩ ⟨rx_blind, rx_pre C hP hS _⟩ rfl hn hl.1 hst (lv_room hcat) hdg hR.2.2
theorem rx_rSN (C : rx_C G k p m c cc own nL ret s args meth) (hM : Met l y (rx_ws y bytes maxL rt) rm (va_Pc As (rx_G G k h n)) Qc mc ms (rx_A k)) (hY : rx_Y y bytes maxL rt np) (hSt : Cond.static y ∈ rx_good) {host : String} (hlk : Cond.methodLinkNest own index y host ∈ rx_nest) (hR : rx_R rm R mc ms maxL cells slots) (hn : As.length = np) (hst : st = As.reverse ++ rest) (hcat : (rest.map fun v => v.category).sum ≤ 8) (hdg : decode cc pc = .ok (.invokestatic index, 3)) :
    rx_Run p l e R s m args below meth c G k nL cells slots mc ms h n pc L st rest (Qc As.toArray) := fun H locs ls hP hS hl =>
  va_runSN (rx_fix C) hM ⟨va_cnB np C.2.2.2.1 (rx_goodWs hY.1) rfl hR.1.1 hR.1.2 (C.2.2.2.2.2.2.2.1.2.1 _ hlk) (C.2.2.2.1 _ hY.2.1) hY.2.2 hR.2.1, C.2.2.2.1 _ hSt, trivial⟩ ⟨rx_blind, rx_pre C hP hS _⟩ rfl hn hl.1 hst (lv_room hcat) hdg hR.2.2
theorem rx_rI (C : rx_C G k p m c cc own nL ret s args meth) (hM : Met l y (rx_ws y bytes maxL none) rm (va_Pc (.ref b :: As) (rx_G G k h n)) Qc mc ms (rx_A k)) (hY : rx_Y y bytes maxL none np) (hI : Cond.instanceMethod y ∈ rx_good) (hy1 : y.name = "<init>") (hlk : Cond.methodLink own index y ∈ rx_good) (hR : rx_R rm R mc ms maxL cells slots) (hn : As.length = np) (hst : st = As.reverse ++ .ref b :: rest) (hcat : (rest.map fun v => v.category).sum ≤ 8) (hdg : decode cc pc = .ok (.invokespecial index, 3)) :
    rx_Run p l e R s m args below meth c G k nL cells slots mc ms h n pc L st rest (Qc (Value.ref b :: As).toArray) := fun H locs ls hP hS hl =>
  va_runI (rx_fix C) hM (cwI np C.2.2.2.1 (rx_goodWs hY.1) rfl hR.1.1 hR.1.2 (C.2.2.2.1 _ hY.2.1) (C.2.2.2.1 _ hlk) (C.2.2.2.1 _ hI) hy1 hY.2.2 hR.2.1) ⟨rx_blind, rx_pre C hP hS _⟩ rfl hn hl.1 hst (lv_room hcat) hdg hR.2.2
theorem rx_rIN (C : rx_C G k p m c cc own nL ret s args meth) (hM : Met l y (rx_ws y bytes maxL none) rm (va_Pc (.ref b :: As) (rx_G G k h n)) Qc mc ms (rx_A k)) (hY : rx_Y y bytes maxL none np) (hI : Cond.instanceMethod y ∈ rx_good) (hy1 : y.name = "<init>") {host : String} (hlk : Cond.methodLinkNest own index y host ∈ rx_nest) (hR : rx_R rm R mc ms maxL cells slots) (hn : As.length = np) (hst : st = As.reverse ++ .ref b :: rest) (hcat : (rest.map fun v => v.category).sum ≤ 8) (hdg : decode cc pc = .ok (.invokespecial index, 3)) :
    rx_Run p l e R s m args below meth c G k nL cells slots mc ms h n pc L st rest (Qc (Value.ref b :: As).toArray) := fun H locs ls hP hS hl =>
  va_runIN (rx_fix C) hM ⟨va_cnB np C.2.2.2.1 (rx_goodWs hY.1) rfl hR.1.1 hR.1.2 (C.2.2.2.2.2.2.2.1.2.1 _ hlk) (C.2.2.2.1 _ hY.2.1) hY.2.2 hR.2.1, hy1, C.2.2.2.1 _ hI⟩ ⟨rx_blind, rx_pre C hP hS _⟩ rfl hn hl.1 hst (lv_room hcat) hdg hR.2.2
/-- behind a call -/
theorem rx_ci {a : Array Value} {post : Int32 → hp × Nat → Prop} (hr : rx_Run p l e R s m args below meth c G k nL cells slots mc ms h n pc L st rest (va_Qi post (rx_B G k) (rx_A k) a))
    (K : ∀ (r : Int32) (h1 : hp) (n1 : Nat), post r (h1, n1) → rx_W p l e R s m args below meth c Q G k nL (cells + mc) (slots + ms) h1 n1 (pc + 3) L (.int r :: rest)) : rx_W p l e R s m args below meth c Q G k nL cells slots h n pc L st := fun H locs ls hP hS hl =>
  va_calli (hr H locs ls hP hS hl) hS (fun _ _ h => h) (fun _ h => h) (fun r u t H1 locs1 ht hvm hw hB hz1 hk1 hS1 => K r u.1 u.2 hw H1 locs1 ls (by rw [← ht]; exact hB) hS1 hl)
theorem rx_cv {a : Array Value} {post : hp × Nat → Prop} (hr : rx_Run p l e R s m args below meth c G k nL cells slots mc ms h n pc L st rest (va_Qv post (rx_B G k) (rx_A k) a))
    (K : ∀ (h1 : hp) (n1 : Nat), post (h1, n1) → rx_W p l e R s m args below meth c Q G k nL (cells + mc) (slots + ms) h1 n1 (pc + 3) L rest) : rx_W p l e R s m args below meth c Q G k nL cells slots h n pc L st := fun H locs ls hP hS hl =>
  va_callv (hr H locs ls hP hS hl) hS (fun _ _ h => h) (fun _ h => h) (fun u t H1 locs1 ht hvm hw hB hz1 hk1 hS1 => K u.1 u.2 hw H1 locs1 ls (by rw [← ht]; exact hB) hS1 hl)
theorem rx_cq {a : Array Value} {post : Option Nat → hp × Nat → Prop} (hr : rx_Run p l e R s m args below meth c G k nL cells slots mc ms h n pc L st rest (va_Qq post (rx_B G k) (rx_A k) a))
    (K : ∀ (r : Option Nat) (h1 : hp) (n1 : Nat), post r (h1, n1) → rx_W p l e R s m args below meth c Q G k nL (cells + mc) (slots + ms) h1 n1 (pc + 3) L (va_rf r :: rest)) : rx_W p l e R s m args below meth c Q G k nL cells slots h n pc L st := fun H locs ls hP hS hl =>
  va_callq (hr H locs ls hP hS hl) hS (fun _ _ h => h) (fun _ h => h) (fun r u t H1 locs1 ht hvm hw hB hz1 hk1 hS1 => K r u.1 u.2 hw H1 locs1 ls (by rw [← ht]; exact hB) hS1 hl)
theorem rx_cd {a : Array Value} {post : UInt64 → hp × Nat → Prop} (hr : rx_Run p l e R s m args below meth c G k nL cells slots mc ms h n pc L st rest (va_Qd post (rx_B G k) (rx_A k) a))
    (K : ∀ (r : UInt64) (h1 : hp) (n1 : Nat), post r (h1, n1) → rx_W p l e R s m args below meth c Q G k nL (cells + mc) (slots + ms) h1 n1 (pc + 3) L (.double r :: rest)) : rx_W p l e R s m args below meth c Q G k nL cells slots h n pc L st := fun H locs ls hP hS hl =>
  va_calld (hr H locs ls hP hS hl) hS (fun _ _ h => h) (fun _ h => h) (fun r u t H1 locs1 ht hvm hw hB hz1 hk1 hS1 => K r u.1 u.2 hw H1 locs1 ls (by rw [← ht]; exact hB) hS1 hl)
theorem rx_cf {a : Array Value} {post : UInt32 → hp × Nat → Prop} (hr : rx_Run p l e R s m args below meth c G k nL cells slots mc ms h n pc L st rest (va_Qf post (rx_B G k) (rx_A k) a))
    (K : ∀ (r : UInt32) (h1 : hp) (n1 : Nat), post r (h1, n1) → rx_W p l e R s m args below meth c Q G k nL (cells + mc) (slots + ms) h1 n1 (pc + 3) L (.float r :: rest)) : rx_W p l e R s m args below meth c Q G k nL cells slots h n pc L st := fun H locs ls hP hS hl =>
  va_callf (hr H locs ls hP hS hl) hS (fun _ _ h => h) (fun _ h => h) (fun r u t H1 locs1 ht hvm hw hB hz1 hk1 hS1 => K r u.1 u.2 hw H1 locs1 ls (by rw [← ht]; exact hB) hS1 hl)
/-- a method's ends -/
theorem rx_iret (C : rx_C G k p m c cc own nL (some .int) s args meth) {post : Int32 → hp × Nat → Prop} {v : Int32} (hdg : decode cc pc = .ok (.ireturn, 1)) (h1 : cells ≤ mc) (h2 : slots ≤ ms) (hp : post v (h, n)) : rx_W p l e R s m args below meth c (MQ below (va_Qi post (rx_B G k) (rx_A k)) args s mc ms (rx_A k)) G k nL cells slots h n pc L [.int v] := fun H locs ls hP hS hl =>
  W.widen h1 h2 (W.iret (v := v) C.1 C.2.1 C.2.2.2.2.2.1 (fun t ht hW => ⟨⟨v, (h, n), rfl, hp, by show rx_P G (k 0) h n t.heap; rw [ht]; exact hP⟩, hS.F ht⟩) hS.2.2 hdg C.2.2.2.2.2.2.1)
theorem rx_zret {ty : FieldType} (C : rx_C G k p m c cc own nL (some ty) s args meth) {post : Int32 → hp × Nat → Prop} {v : Int32} (hn : narrow ty (.int v) = .int v) (hdg : decode cc pc = .ok (.ireturn, 1)) (h1 : cells ≤ mc) (h2 : slots ≤ ms) (hp : post v (h, n)) : rx_W p l e R s m args below meth c (MQ below (va_Qi post (rx_B G k) (rx_A k)) args s mc ms (rx_A k)) G k nL cells slots h n pc L [.int v] := fun H locs ls hP hS hl =>
  W.widen h1 h2 (W.zret (v := v) C.1 C.2.1 C.2.2.2.2.2.1 hn (fun t ht hW => ⟨⟨v, (h, n), rfl, hp, by show rx_P G (k 0) h n t.heap; rw [ht]; exact hP⟩, hS.F ht⟩) hS.2.2 hdg C.2.2.2.2.2.2.1)
theorem rx_vret (C : rx_C G k p m c cc own nL none s args meth) {post : hp × Nat → Prop} (hdg : decode cc pc = .ok (.return_, 1)) (h1 : cells ≤ mc) (h2 : slots ≤ ms) (hp : post (h, n)) : rx_W p l e R s m args below meth c (MQ below (va_Qv post (rx_B G k) (rx_A k)) args s mc ms (rx_A k)) G k nL cells slots h n pc L [] := fun H locs ls hP hS hl =>
  W.widen h1 h2 (W.vret C.1 C.2.1 C.2.2.2.2.2.1 (fun t ht hW => ⟨⟨(h, n), rfl, hp, by show rx_P G (k 0) h n t.heap; rw [ht]; exact hP⟩, hS.F ht⟩) hS.2.2 hdg C.2.2.2.2.2.2.1)
theorem rx_qret {C9 : String} (C : rx_C G k p m c cc own nL (some (.object C9)) s args meth) {post : Option Nat → hp × Nat → Prop} {v : Option Nat} (hdg : decode cc pc = .ok (.areturn, 1)) (h1 : cells ≤ mc) (h2 : slots ≤ ms) (hp : post v (h, n)) : rx_W p l e R s m args below meth c (MQ below (va_Qq post (rx_B G k) (rx_A k)) args s mc ms (rx_A k)) G k nL cells slots h n pc L [va_rf v] := fun H locs ls hP hS hl =>
  W.widen h1 h2 (W.aret (v := va_rf v) C.1 C.2.1 C.2.2.2.2.2.1 (Or.inl ⟨_, rfl⟩) (by cases v with | none => exact Or.inl rfl | some a => exact Or.inr ⟨a, rfl⟩) (fun t ht hW => ⟨⟨v, (h, n), rfl, hp, by show rx_P G (k 0) h n t.heap; rw [ht]; exact hP⟩, hS.F ht⟩) hS.2.2 hdg C.2.2.2.2.2.2.1)
theorem rx_dret (C : rx_C G k p m c cc own nL (some .double) s args meth) {post : UInt64 → hp × Nat → Prop} {v : UInt64} (hdg : decode cc pc = .ok (.dreturn, 1)) (h1 : cells ≤ mc) (h2 : slots ≤ ms) (hp : post v (h, n)) : rx_W p l e R s m args below meth c (MQ below (va_Qd post (rx_B G k) (rx_A k)) args s mc ms (rx_A k)) G k nL cells slots h n pc L [.double v] := fun H locs ls hP hS hl =>
  W.widen h1 h2 (W.dret (v := v) C.1 C.2.1 C.2.2.2.2.2.1 (fun t ht hW => ⟨⟨v, (h, n), rfl, hp, by show rx_P G (k 0) h n t.heap; rw [ht]; exact hP⟩, hS.F ht⟩) hS.2.2 hdg C.2.2.2.2.2.2.1)
theorem rx_fret (C : rx_C G k p m c cc own nL (some .float) s args meth) {post : UInt32 → hp × Nat → Prop} {v : UInt32} (hdg : decode cc pc = .ok (.freturn, 1)) (h1 : cells ≤ mc) (h2 : slots ≤ ms) (hp : post v (h, n)) : rx_W p l e R s m args below meth c (MQ below (va_Qf post (rx_B G k) (rx_A k)) args s mc ms (rx_A k)) G k nL cells slots h n pc L [.float v] := fun H locs ls hP hS hl =>
  W.widen h1 h2 (W.fret (v := v) C.1 C.2.1 C.2.2.2.2.2.1 (fun t ht hW => ⟨⟨v, (h, n), rfl, hp, by show rx_P G (k 0) h n t.heap; rw [ht]; exact hP⟩, hS.F ht⟩) hS.2.2 hdg C.2.2.2.2.2.2.1)
/-- a method's start -/
theorem rx_start {av : List Value} (L0 : List (Nat × Value)) (hL : lv_args 0 av = L0) (hlen : (lg_sl av).length ≤ maxL) (hpl : plainName y.cls = true) (hr9 : rt = rt)
    (body : ∀ (p : Program) (e : Env) (s : State) (m : MethodId) (args : Array Value) (below : List Frame) (meth : Method) (c : Code), rx_C G k p m c bytes y.cls maxL rt s args meth → meth.name = y.name → rx_W p l e rm s m args below meth c (MQ below Qc args s mc ms (rx_A k)) G k maxL 0 0 h n 0 L0 []) :
    Met l y (rx_ws y bytes maxL rt) rm (va_Pc av (rx_G G k h n)) Qc mc ms (rx_A k) := by
  refine Met.ofW (cc := bytes) (maxL := maxL) (ret := rt) hpl rfl ?_
  intro p e s m args below meth c s₁ B hml hv
  obtain ⟨rfl, hP, hV, hT, hS0⟩ := hv
  have hts := atoms_spec (ws := rx_ws y bytes maxL rt) B.pre
  have hl := lv_entry av (n := maxL) hlen
  rw [lg_entry_eq]
  rw [hL] at hl
  exact body p e s m av.toArray below meth c ⟨B.exec, B.bytes, findClass_of_methodNamed B.named, fun w hw => hts w (List.mem_cons_of_mem _ hw), hml, B.returns, B.notSynchronized, hV, hT, hS0⟩ (name_of_methodNamed B.named B.method).1 s.heap [] _ hP va_S.rf hl
end RXC
end
section
/-! The objects as blocks of the picture: their ints by slot (o.1), their rows by slot (o.2). -/
def rx_out (M : List (Nat × Nat)) (a : Nat) : Prop := match M with
  | [] => True
  | r :: M => (a < r.1 ∨ r.1 + r.2 ≤ a) ∧ rx_out M a
/-- all but what lies in M is as it was -/
def rx_fr (M : List (Nat × Nat)) (h h1 : hp) : Prop := ∀ a : Nat, rx_out M a → h1 a = h a
def rx_dis (q z : Nat) (M : List (Nat × Nat)) : Prop := match M with
  | [] => True
  | r :: M => (q + z ≤ r.1 ∨ r.1 + r.2 ≤ q) ∧ rx_dis q z M
theorem rx_dis_out {q z : Nat} {M : List (Nat × Nat)} (hd : rx_dis q z M) {a : Nat} (h1 : q ≤ a) (h2 : a < q + z) : rx_out M a := by
  induction M with
  | nil => trivial
  | cons r M ih => exact ⟨by have := hd.1; omega, ih hd.2⟩
theorem rx_fr0 {M : List (Nat × Nat)} {h : hp} : rx_fr M h h := fun _ _ => rfl
theorem rx_frt {M N : List (Nat × Nat)} {h h1 h2 : hp} (f1 : rx_fr M h h1) (f2 : rx_fr N h1 h2) (hs : ∀ a, rx_out M a → rx_out N a) : rx_fr M h h2 := fun a ha => (f2 a (hs a ha)).trans (f1 a ha)
theorem rx_fr1 {h : hp} {a q z : Nat} {x : Option va_E} (h1 : q ≤ a) (h2 : a < q + z) : rx_fr [(q, z)] h (va_up h a x) := fun b hb => va_up_ne _ _ (by have := hb.1; dsimp only at this; omega)
theorem rx_upself {f : hp} {a : Nat} {x : Option va_E} : va_up f a x a = x := va_up_self _ _ _
abbrev obv : Type := ob × (Nat → Option Nat)
theorem rx_vmap {k : Nat → Nat} {f : Nat → Option Nat} {i z0 : Nat} : va_up (fun j => (f j).map (fun z => k (10 + z))) i (some (k (10 + z0))) = fun j => (va_up f i (some z0) j).map (fun z => k (10 + z)) := by
  funext j
  by_cases e : j = i <;> simp [va_up, e]
/-- a step of a function that mirrors code: a name for a value -/
def rx_le {α β : Type} (a : α) (f : α → Option β) : Option β := f a
theorem rx_leE {α β : Type} {a : α} {f : α → Option β} {r : β} (h : rx_le a f = some r) : ∃ x, a = x ∧ f x = some r := ⟨a, rfl, h⟩
theorem rx_biE {α β : Type} {a : Option α} {f : α → Option β} {r : β} (h : a.bind f = some r) : ∃ x, a = some x ∧ f x = some r := Option.bind_eq_some_iff.mp h
/-- a row's place, as the machine reads and writes it -/
def rx_ald (len : Nat) (f : Nat → Int32) (i : Int32) : Option Int32 := if 0 ≤ i ∧ i.toNatClampNeg < len then some (f i.toNatClampNeg) else none
def rx_ast (len : Nat) (f : Nat → Int32) (i v : Int32) : Option (Nat → Int32) := if 0 ≤ i ∧ i.toNatClampNeg < len then some (upd f i.toNatClampNeg v) else none
theorem rx_vin {i : Int32} {len : Nat} (h : 0 ≤ i ∧ i.toNatClampNeg < len) : vp_in i len := fun q => by
  rcases q with q | q
  · exact absurd h.1 (by rw [Int32.not_le]; exact q)
  · omega
theorem rx_aldE {len : Nat} {f : Nat → Int32} {i x : Int32} (h : rx_ald len f i = some x) : vp_in i len ∧ f i.toNatClampNeg = x := by
  unfold rx_ald at h
  split at h
  · rename_i c
    exact ⟨rx_vin c, Option.some.inj h⟩
  · cases h
theorem rx_astE {len : Nat} {f g : Nat → Int32} {i v : Int32} (h : rx_ast len f i v = some g) : vp_in i len ∧ upd f i.toNatClampNeg v = g := by
  unfold rx_ast at h
  split at h
  · rename_i c
    exact ⟨rx_vin c, Option.some.inj h⟩
  · cases h
def rx_div (x y : Int32) : Option Int32 := if y = 0 then none else some (x / y)
def rx_rem (x y : Int32) : Option Int32 := if y = 0 then none else some (x - x / y * y)
theorem rx_divE {x y z : Int32} (h : rx_div x y = some z) : ¬ y = 0 ∧ x / y = z := by
  unfold rx_div at h
  split at h
  · cases h
  · rename_i c; exact ⟨c, Option.some.inj h⟩
theorem rx_remE {x y z : Int32} (h : rx_rem x y = some z) : ¬ y = 0 ∧ x - x / y * y = z := by
  unfold rx_rem at h
  split at h
  · cases h
  · rename_i c; exact ⟨c, Option.some.inj h⟩
/-- the class's own readers and writers of rows, which test the place -/
def rx_at (len : Nat) (f : Nat → Int32) (i : Int32) : Int32 := if i < 0 then 0 else if nI len ≤ i then 0 else f i.toNatClampNeg
def rx_put (len : Nat) (f : Nat → Int32) (i v : Int32) : Nat → Int32 := if i < 0 then f else if nI len ≤ i then f else upd f i.toNatClampNeg v
def rx_cp (n1 n2 : Nat) (f g : Nat → Int32) : Nat → Int32 := va_cpy f g 0 0 (min n1 n2)
theorem rx_nz {v : Int32} (h : v = 0 ∨ v = 1) : narrow .boolean (.int v) = .int v := by rcases h with rfl | rfl <;> rfl
def bQ (k : Nat → Nat) (q : Nat) (o : ob) (h : hp) : Prop := h q = some (.inr (2, [.ref (q + 1), .ref (q + 2), .int (o.1 2)])) ∧ h (q + 1) = some (rx_ia k 10 (o.2 0)) ∧ h (q + 2) = some (rx_ia k 10 (o.2 1))
theorem bQ.keep0 {k : Nat → Nat} {q : Nat} {o : ob} {h h1 : hp} (hb : bQ k q o h) (hf : ∀ a : Nat, q ≤ a → a < q + 3 → h1 a = h a) : bQ k q o h1 := ⟨(hf _ (by omega) (by omega)).trans hb.1, (hf _ (by omega) (by omega)).trans hb.2.1, (hf _ (by omega) (by omega)).trans hb.2.2⟩
theorem bQ.keep {k : Nat → Nat} {q : Nat} {o : ob} {h h1 : hp} {M : List (Nat × Nat)} (hb : bQ k q o h) (hf : rx_fr M h h1) (hd : rx_dis q 3 M) : bQ k q o h1 := hb.keep0 (fun a h2 h3 => hf a (rx_dis_out hd h2 h3))
theorem bQ.put2 {k : Nat → Nat} {q : Nat} {o : ob} {h : hp} {v : Int32} (hb : bQ k q o h) : bQ k q (upd o.1 2 v, o.2) (va_up h q (some (.inr (2, [.ref (q + 1), .ref (q + 2), .int v])))) := by
  exact ⟨va_up_self _ _ _, (va_up_ne _ _ (by omega)).trans hb.2.1, (va_up_ne _ _ (by omega)).trans hb.2.2⟩
theorem bQ.ast0 {k : Nat → Nat} {q : Nat} {o : ob} {h : hp} {f : Nat → Int32} (hb : bQ k q o h) : bQ k q (o.1, va_up o.2 0 f) (va_up h (q + 1) (some (rx_ia k 10 f))) := by
  exact ⟨(va_up_ne _ _ (by omega)).trans hb.1, va_up_self _ _ _, (va_up_ne _ _ (by omega)).trans hb.2.2⟩
theorem bQ.ast1 {k : Nat → Nat} {q : Nat} {o : ob} {h : hp} {f : Nat → Int32} (hb : bQ k q o h) : bQ k q (o.1, va_up o.2 1 f) (va_up h (q + 2) (some (rx_ia k 10 f))) := by
  exact ⟨(va_up_ne _ _ (by omega)).trans hb.1, (va_up_ne _ _ (by omega)).trans hb.2.1, va_up_self _ _ _⟩
def bS (k : Nat → Nat) (q : Nat) (o : ob) (h : hp) : Prop := h q = some (.inr (4, [.int (o.1 0), .int (o.1 1), .int (o.1 2), .int (o.1 3), .int (o.1 4), .int (o.1 5), .ref (q + 1), .ref (q + 2), .ref (q + 3), .ref (q + 4), .ref (q + 5), .ref (q + 6), .ref (q + 7), .ref (q + 8)])) ∧ h (q + 1) = some (rx_ia k 10 (o.2 6)) ∧ h (q + 2) = some (rx_ia k 10 (o.2 7)) ∧ h (q + 3) = some (rx_ia k 10 (o.2 8)) ∧ h (q + 4) = some (rx_ia k 10 (o.2 9)) ∧ h (q + 5) = some (rx_ia k 10 (o.2 10)) ∧ h (q + 6) = some (rx_ia k 4 (o.2 11)) ∧ h (q + 7) = some (rx_ia k 4 (o.2 12)) ∧ h (q + 8) = some (rx_ia k 4 (o.2 13))
theorem bS.keep0 {k : Nat → Nat} {q : Nat} {o : ob} {h h1 : hp} (hb : bS k q o h) (hf : ∀ a : Nat, q ≤ a → a < q + 9 → h1 a = h a) : bS k q o h1 := ⟨(hf _ (by omega) (by omega)).trans hb.1, (hf _ (by omega) (by omega)).trans hb.2.1, (hf _ (by omega) (by omega)).trans hb.2.2.1, (hf _ (by omega) (by omega)).trans hb.2.2.2.1, (hf _ (by omega) (by omega)).trans hb.2.2.2.2.1, (hf _ (by omega) (by omega)).trans hb.2.2.2.2.2.1, (hf _ (by omega) (by omega)).trans hb.2.2.2.2.2.2.1, (hf _ (by omega) (by omega)).trans hb.2.2.2.2.2.2.2.1, (hf _ (by omega) (by omega)).trans hb.2.2.2.2.2.2.2.2⟩
theorem bS.keep {k : Nat → Nat} {q : Nat} {o : ob} {h h1 : hp} {M : List (Nat × Nat)} (hb : bS k q o h) (hf : rx_fr M h h1) (hd : rx_dis q 9 M) : bS k q o h1 := hb.keep0 (fun a h2 h3 => hf a (rx_dis_out hd h2 h3))
theorem bS.put0 {k : Nat → Nat} {q : Nat} {o : ob} {h : hp} {v : Int32} (hb : bS k q o h) : bS k q (upd o.1 0 v, o.2) (va_up h q (some (.inr (4, [.int v, .int (o.1 1), .int (o.1 2), .int (o.1 3), .int (o.1 4), .int (o.1 5), .ref (q + 1), .ref (q + 2), .ref (q + 3), .ref (q + 4), .ref (q + 5), .ref (q + 6), .ref (q + 7), .ref (q + 8)])))) := by
  exact ⟨va_up_self _ _ _, (va_up_ne _ _ (by omega)).trans hb.2.1, (va_up_ne _ _ (by omega)).trans hb.2.2.1, (va_up_ne _ _ (by omega)).trans hb.2.2.2.1, (va_up_ne _ _ (by omega)).trans hb.2.2.2.2.1, (va_up_ne _ _ (by omega)).trans hb.2.2.2.2.2.1, (va_up_ne _ _ (by omega)).trans hb.2.2.2.2.2.2.1, (va_up_ne _ _ (by omega)).trans hb.2.2.2.2.2.2.2.1, (va_up_ne _ _ (by omega)).trans hb.2.2.2.2.2.2.2.2⟩
theorem bS.put1 {k : Nat → Nat} {q : Nat} {o : ob} {h : hp} {v : Int32} (hb : bS k q o h) : bS k q (upd o.1 1 v, o.2) (va_up h q (some (.inr (4, [.int (o.1 0), .int v, .int (o.1 2), .int (o.1 3), .int (o.1 4), .int (o.1 5), .ref (q + 1), .ref (q + 2), .ref (q + 3), .ref (q + 4), .ref (q + 5), .ref (q + 6), .ref (q + 7), .ref (q + 8)])))) := by
  exact ⟨va_up_self _ _ _, (va_up_ne _ _ (by omega)).trans hb.2.1, (va_up_ne _ _ (by omega)).trans hb.2.2.1, (va_up_ne _ _ (by omega)).trans hb.2.2.2.1, (va_up_ne _ _ (by omega)).trans hb.2.2.2.2.1, (va_up_ne _ _ (by omega)).trans hb.2.2.2.2.2.1, (va_up_ne _ _ (by omega)).trans hb.2.2.2.2.2.2.1, (va_up_ne _ _ (by omega)).trans hb.2.2.2.2.2.2.2.1, (va_up_ne _ _ (by omega)).trans hb.2.2.2.2.2.2.2.2⟩
theorem bS.put2 {k : Nat → Nat} {q : Nat} {o : ob} {h : hp} {v : Int32} (hb : bS k q o h) : bS k q (upd o.1 2 v, o.2) (va_up h q (some (.inr (4, [.int (o.1 0), .int (o.1 1), .int v, .int (o.1 3), .int (o.1 4), .int (o.1 5), .ref (q + 1), .ref (q + 2), .ref (q + 3), .ref (q + 4), .ref (q + 5), .ref (q + 6), .ref (q + 7), .ref (q + 8)])))) := by
  exact ⟨va_up_self _ _ _, (va_up_ne _ _ (by omega)).trans hb.2.1, (va_up_ne _ _ (by omega)).trans hb.2.2.1, (va_up_ne _ _ (by omega)).trans hb.2.2.2.1, (va_up_ne _ _ (by omega)).trans hb.2.2.2.2.1, (va_up_ne _ _ (by omega)).trans hb.2.2.2.2.2.1, (va_up_ne _ _ (by omega)).trans hb.2.2.2.2.2.2.1, (va_up_ne _ _ (by omega)).trans hb.2.2.2.2.2.2.2.1, (va_up_ne _ _ (by omega)).trans hb.2.2.2.2.2.2.2.2⟩
theorem bS.put3 {k : Nat → Nat} {q : Nat} {o : ob} {h : hp} {v : Int32} (hb : bS k q o h) : bS k q (upd o.1 3 v, o.2) (va_up h q (some (.inr (4, [.int (o.1 0), .int (o.1 1), .int (o.1 2), .int v, .int (o.1 4), .int (o.1 5), .ref (q + 1), .ref (q + 2), .ref (q + 3), .ref (q + 4), .ref (q + 5), .ref (q + 6), .ref (q + 7), .ref (q + 8)])))) := by
  exact ⟨va_up_self _ _ _, (va_up_ne _ _ (by omega)).trans hb.2.1, (va_up_ne _ _ (by omega)).trans hb.2.2.1, (va_up_ne _ _ (by omega)).trans hb.2.2.2.1, (va_up_ne _ _ (by omega)).trans hb.2.2.2.2.1, (va_up_ne _ _ (by omega)).trans hb.2.2.2.2.2.1, (va_up_ne _ _ (by omega)).trans hb.2.2.2.2.2.2.1, (va_up_ne _ _ (by omega)).trans hb.2.2.2.2.2.2.2.1, (va_up_ne _ _ (by omega)).trans hb.2.2.2.2.2.2.2.2⟩
theorem bS.put4 {k : Nat → Nat} {q : Nat} {o : ob} {h : hp} {v : Int32} (hb : bS k q o h) : bS k q (upd o.1 4 v, o.2) (va_up h q (some (.inr (4, [.int (o.1 0), .int (o.1 1), .int (o.1 2), .int (o.1 3), .int v, .int (o.1 5), .ref (q + 1), .ref (q + 2), .ref (q + 3), .ref (q + 4), .ref (q + 5), .ref (q + 6), .ref (q + 7), .ref (q + 8)])))) := by
  exact ⟨va_up_self _ _ _, (va_up_ne _ _ (by omega)).trans hb.2.1, (va_up_ne _ _ (by omega)).trans hb.2.2.1, (va_up_ne _ _ (by omega)).trans hb.2.2.2.1, (va_up_ne _ _ (by omega)).trans hb.2.2.2.2.1, (va_up_ne _ _ (by omega)).trans hb.2.2.2.2.2.1, (va_up_ne _ _ (by omega)).trans hb.2.2.2.2.2.2.1, (va_up_ne _ _ (by omega)).trans hb.2.2.2.2.2.2.2.1, (va_up_ne _ _ (by omega)).trans hb.2.2.2.2.2.2.2.2⟩
theorem bS.put5 {k : Nat → Nat} {q : Nat} {o : ob} {h : hp} {v : Int32} (hb : bS k q o h) : bS k q (upd o.1 5 v, o.2) (va_up h q (some (.inr (4, [.int (o.1 0), .int (o.1 1), .int (o.1 2), .int (o.1 3), .int (o.1 4), .int v, .ref (q + 1), .ref (q + 2), .ref (q + 3), .ref (q + 4), .ref (q + 5), .ref (q + 6), .ref (q + 7), .ref (q + 8)])))) := by
  exact ⟨va_up_self _ _ _, (va_up_ne _ _ (by omega)).trans hb.2.1, (va_up_ne _ _ (by omega)).trans hb.2.2.1, (va_up_ne _ _ (by omega)).trans hb.2.2.2.1, (va_up_ne _ _ (by omega)).trans hb.2.2.2.2.1, (va_up_ne _ _ (by omega)).trans hb.2.2.2.2.2.1, (va_up_ne _ _ (by omega)).trans hb.2.2.2.2.2.2.1, (va_up_ne _ _ (by omega)).trans hb.2.2.2.2.2.2.2.1, (va_up_ne _ _ (by omega)).trans hb.2.2.2.2.2.2.2.2⟩
theorem bS.ast6 {k : Nat → Nat} {q : Nat} {o : ob} {h : hp} {f : Nat → Int32} (hb : bS k q o h) : bS k q (o.1, va_up o.2 6 f) (va_up h (q + 1) (some (rx_ia k 10 f))) := by
  exact ⟨(va_up_ne _ _ (by omega)).trans hb.1, va_up_self _ _ _, (va_up_ne _ _ (by omega)).trans hb.2.2.1, (va_up_ne _ _ (by omega)).trans hb.2.2.2.1, (va_up_ne _ _ (by omega)).trans hb.2.2.2.2.1, (va_up_ne _ _ (by omega)).trans hb.2.2.2.2.2.1, (va_up_ne _ _ (by omega)).trans hb.2.2.2.2.2.2.1, (va_up_ne _ _ (by omega)).trans hb.2.2.2.2.2.2.2.1, (va_up_ne _ _ (by omega)).trans hb.2.2.2.2.2.2.2.2⟩
theorem bS.ast7 {k : Nat → Nat} {q : Nat} {o : ob} {h : hp} {f : Nat → Int32} (hb : bS k q o h) : bS k q (o.1, va_up o.2 7 f) (va_up h (q + 2) (some (rx_ia k 10 f))) := by
  exact ⟨(va_up_ne _ _ (by omega)).trans hb.1, (va_up_ne _ _ (by omega)).trans hb.2.1, va_up_self _ _ _, (va_up_ne _ _ (by omega)).trans hb.2.2.2.1, (va_up_ne _ _ (by omega)).trans hb.2.2.2.2.1, (va_up_ne _ _ (by omega)).trans hb.2.2.2.2.2.1, (va_up_ne _ _ (by omega)).trans hb.2.2.2.2.2.2.1, (va_up_ne _ _ (by omega)).trans hb.2.2.2.2.2.2.2.1, (va_up_ne _ _ (by omega)).trans hb.2.2.2.2.2.2.2.2⟩
theorem bS.ast8 {k : Nat → Nat} {q : Nat} {o : ob} {h : hp} {f : Nat → Int32} (hb : bS k q o h) : bS k q (o.1, va_up o.2 8 f) (va_up h (q + 3) (some (rx_ia k 10 f))) := by
  exact ⟨(va_up_ne _ _ (by omega)).trans hb.1, (va_up_ne _ _ (by omega)).trans hb.2.1, (va_up_ne _ _ (by omega)).trans hb.2.2.1, va_up_self _ _ _, (va_up_ne _ _ (by omega)).trans hb.2.2.2.2.1, (va_up_ne _ _ (by omega)).trans hb.2.2.2.2.2.1, (va_up_ne _ _ (by omega)).trans hb.2.2.2.2.2.2.1, (va_up_ne _ _ (by omega)).trans hb.2.2.2.2.2.2.2.1, (va_up_ne _ _ (by omega)).trans hb.2.2.2.2.2.2.2.2⟩
theorem bS.ast9 {k : Nat → Nat} {q : Nat} {o : ob} {h : hp} {f : Nat → Int32} (hb : bS k q o h) : bS k q (o.1, va_up o.2 9 f) (va_up h (q + 4) (some (rx_ia k 10 f))) := by
  exact ⟨(va_up_ne _ _ (by omega)).trans hb.1, (va_up_ne _ _ (by omega)).trans hb.2.1, (va_up_ne _ _ (by omega)).trans hb.2.2.1, (va_up_ne _ _ (by omega)).trans hb.2.2.2.1, va_up_self _ _ _, (va_up_ne _ _ (by omega)).trans hb.2.2.2.2.2.1, (va_up_ne _ _ (by omega)).trans hb.2.2.2.2.2.2.1, (va_up_ne _ _ (by omega)).trans hb.2.2.2.2.2.2.2.1, (va_up_ne _ _ (by omega)).trans hb.2.2.2.2.2.2.2.2⟩
theorem bS.ast10 {k : Nat → Nat} {q : Nat} {o : ob} {h : hp} {f : Nat → Int32} (hb : bS k q o h) : bS k q (o.1, va_up o.2 10 f) (va_up h (q + 5) (some (rx_ia k 10 f))) := by
  exact ⟨(va_up_ne _ _ (by omega)).trans hb.1, (va_up_ne _ _ (by omega)).trans hb.2.1, (va_up_ne _ _ (by omega)).trans hb.2.2.1, (va_up_ne _ _ (by omega)).trans hb.2.2.2.1, (va_up_ne _ _ (by omega)).trans hb.2.2.2.2.1, va_up_self _ _ _, (va_up_ne _ _ (by omega)).trans hb.2.2.2.2.2.2.1, (va_up_ne _ _ (by omega)).trans hb.2.2.2.2.2.2.2.1, (va_up_ne _ _ (by omega)).trans hb.2.2.2.2.2.2.2.2⟩
theorem bS.ast11 {k : Nat → Nat} {q : Nat} {o : ob} {h : hp} {f : Nat → Int32} (hb : bS k q o h) : bS k q (o.1, va_up o.2 11 f) (va_up h (q + 6) (some (rx_ia k 4 f))) := by
  exact ⟨(va_up_ne _ _ (by omega)).trans hb.1, (va_up_ne _ _ (by omega)).trans hb.2.1, (va_up_ne _ _ (by omega)).trans hb.2.2.1, (va_up_ne _ _ (by omega)).trans hb.2.2.2.1, (va_up_ne _ _ (by omega)).trans hb.2.2.2.2.1, (va_up_ne _ _ (by omega)).trans hb.2.2.2.2.2.1, va_up_self _ _ _, (va_up_ne _ _ (by omega)).trans hb.2.2.2.2.2.2.2.1, (va_up_ne _ _ (by omega)).trans hb.2.2.2.2.2.2.2.2⟩
theorem bS.ast12 {k : Nat → Nat} {q : Nat} {o : ob} {h : hp} {f : Nat → Int32} (hb : bS k q o h) : bS k q (o.1, va_up o.2 12 f) (va_up h (q + 7) (some (rx_ia k 4 f))) := by
  exact ⟨(va_up_ne _ _ (by omega)).trans hb.1, (va_up_ne _ _ (by omega)).trans hb.2.1, (va_up_ne _ _ (by omega)).trans hb.2.2.1, (va_up_ne _ _ (by omega)).trans hb.2.2.2.1, (va_up_ne _ _ (by omega)).trans hb.2.2.2.2.1, (va_up_ne _ _ (by omega)).trans hb.2.2.2.2.2.1, (va_up_ne _ _ (by omega)).trans hb.2.2.2.2.2.2.1, va_up_self _ _ _, (va_up_ne _ _ (by omega)).trans hb.2.2.2.2.2.2.2.2⟩
theorem bS.ast13 {k : Nat → Nat} {q : Nat} {o : ob} {h : hp} {f : Nat → Int32} (hb : bS k q o h) : bS k q (o.1, va_up o.2 13 f) (va_up h (q + 8) (some (rx_ia k 4 f))) := by
  exact ⟨(va_up_ne _ _ (by omega)).trans hb.1, (va_up_ne _ _ (by omega)).trans hb.2.1, (va_up_ne _ _ (by omega)).trans hb.2.2.1, (va_up_ne _ _ (by omega)).trans hb.2.2.2.1, (va_up_ne _ _ (by omega)).trans hb.2.2.2.2.1, (va_up_ne _ _ (by omega)).trans hb.2.2.2.2.2.1, (va_up_ne _ _ (by omega)).trans hb.2.2.2.2.2.2.1, (va_up_ne _ _ (by omega)).trans hb.2.2.2.2.2.2.2.1, va_up_self _ _ _⟩
def bT (k : Nat → Nat) (q : Nat) (o : ob) (h : hp) : Prop := h q = some (.inr (5, [.ref (q + 1), .int (o.1 1), .int (o.1 2), .int (o.1 3), .int (o.1 4), .int (o.1 5), .int (o.1 6), .int (o.1 7), .int (o.1 8)])) ∧ h (q + 1) = some (rx_ia k 500 (o.2 0))
theorem bT.keep0 {k : Nat → Nat} {q : Nat} {o : ob} {h h1 : hp} (hb : bT k q o h) (hf : ∀ a : Nat, q ≤ a → a < q + 2 → h1 a = h a) : bT k q o h1 := ⟨(hf _ (by omega) (by omega)).trans hb.1, (hf _ (by omega) (by omega)).trans hb.2⟩
theorem bT.keep {k : Nat → Nat} {q : Nat} {o : ob} {h h1 : hp} {M : List (Nat × Nat)} (hb : bT k q o h) (hf : rx_fr M h h1) (hd : rx_dis q 2 M) : bT k q o h1 := hb.keep0 (fun a h2 h3 => hf a (rx_dis_out hd h2 h3))
theorem bT.put1 {k : Nat → Nat} {q : Nat} {o : ob} {h : hp} {v : Int32} (hb : bT k q o h) : bT k q (upd o.1 1 v, o.2) (va_up h q (some (.inr (5, [.ref (q + 1), .int v, .int (o.1 2), .int (o.1 3), .int (o.1 4), .int (o.1 5), .int (o.1 6), .int (o.1 7), .int (o.1 8)])))) := by
  exact ⟨va_up_self _ _ _, (va_up_ne _ _ (by omega)).trans hb.2⟩
theorem bT.put2 {k : Nat → Nat} {q : Nat} {o : ob} {h : hp} {v : Int32} (hb : bT k q o h) : bT k q (upd o.1 2 v, o.2) (va_up h q (some (.inr (5, [.ref (q + 1), .int (o.1 1), .int v, .int (o.1 3), .int (o.1 4), .int (o.1 5), .int (o.1 6), .int (o.1 7), .int (o.1 8)])))) := by
  exact ⟨va_up_self _ _ _, (va_up_ne _ _ (by omega)).trans hb.2⟩
theorem bT.put3 {k : Nat → Nat} {q : Nat} {o : ob} {h : hp} {v : Int32} (hb : bT k q o h) : bT k q (upd o.1 3 v, o.2) (va_up h q (some (.inr (5, [.ref (q + 1), .int (o.1 1), .int (o.1 2), .int v, .int (o.1 4), .int (o.1 5), .int (o.1 6), .int (o.1 7), .int (o.1 8)])))) := by
  exact ⟨va_up_self _ _ _, (va_up_ne _ _ (by omega)).trans hb.2⟩
theorem bT.put4 {k : Nat → Nat} {q : Nat} {o : ob} {h : hp} {v : Int32} (hb : bT k q o h) : bT k q (upd o.1 4 v, o.2) (va_up h q (some (.inr (5, [.ref (q + 1), .int (o.1 1), .int (o.1 2), .int (o.1 3), .int v, .int (o.1 5), .int (o.1 6), .int (o.1 7), .int (o.1 8)])))) := by
  exact ⟨va_up_self _ _ _, (va_up_ne _ _ (by omega)).trans hb.2⟩
theorem bT.put5 {k : Nat → Nat} {q : Nat} {o : ob} {h : hp} {v : Int32} (hb : bT k q o h) : bT k q (upd o.1 5 v, o.2) (va_up h q (some (.inr (5, [.ref (q + 1), .int (o.1 1), .int (o.1 2), .int (o.1 3), .int (o.1 4), .int v, .int (o.1 6), .int (o.1 7), .int (o.1 8)])))) := by
  exact ⟨va_up_self _ _ _, (va_up_ne _ _ (by omega)).trans hb.2⟩
theorem bT.put6 {k : Nat → Nat} {q : Nat} {o : ob} {h : hp} {v : Int32} (hb : bT k q o h) : bT k q (upd o.1 6 v, o.2) (va_up h q (some (.inr (5, [.ref (q + 1), .int (o.1 1), .int (o.1 2), .int (o.1 3), .int (o.1 4), .int (o.1 5), .int v, .int (o.1 7), .int (o.1 8)])))) := by
  exact ⟨va_up_self _ _ _, (va_up_ne _ _ (by omega)).trans hb.2⟩
theorem bT.put7 {k : Nat → Nat} {q : Nat} {o : ob} {h : hp} {v : Int32} (hb : bT k q o h) : bT k q (upd o.1 7 v, o.2) (va_up h q (some (.inr (5, [.ref (q + 1), .int (o.1 1), .int (o.1 2), .int (o.1 3), .int (o.1 4), .int (o.1 5), .int (o.1 6), .int v, .int (o.1 8)])))) := by
  exact ⟨va_up_self _ _ _, (va_up_ne _ _ (by omega)).trans hb.2⟩
theorem bT.put8 {k : Nat → Nat} {q : Nat} {o : ob} {h : hp} {v : Int32} (hb : bT k q o h) : bT k q (upd o.1 8 v, o.2) (va_up h q (some (.inr (5, [.ref (q + 1), .int (o.1 1), .int (o.1 2), .int (o.1 3), .int (o.1 4), .int (o.1 5), .int (o.1 6), .int (o.1 7), .int v])))) := by
  exact ⟨va_up_self _ _ _, (va_up_ne _ _ (by omega)).trans hb.2⟩
theorem bT.ast0 {k : Nat → Nat} {q : Nat} {o : ob} {h : hp} {f : Nat → Int32} (hb : bT k q o h) : bT k q (o.1, va_up o.2 0 f) (va_up h (q + 1) (some (rx_ia k 500 f))) := by
  exact ⟨(va_up_ne _ _ (by omega)).trans hb.1, va_up_self _ _ _⟩
def bP (k : Nat → Nat) (q g : Nat) (o : ob) (h : hp) : Prop := h q = some (.inr (1, [.ref g, .int (o.1 1), .int (o.1 2), .int (o.1 3), .ref (q + 1), .ref (q + 2), .ref (q + 3), .ref (q + 4), .ref (q + 5), .ref (q + 6), .ref (q + 7), .ref (q + 8), .ref (q + 9), .ref (q + 10), .ref (q + 13)])) ∧ h (q + 1) = some (rx_ia k 2 (o.2 4)) ∧ h (q + 2) = some (rx_ia k 10 (o.2 5)) ∧ h (q + 3) = some (rx_ia k 10 (o.2 6)) ∧ h (q + 4) = some (rx_ia k 10 (o.2 7)) ∧ h (q + 5) = some (rx_ia k 10 (o.2 8)) ∧ h (q + 6) = some (rx_ia k 10 (o.2 9)) ∧ h (q + 7) = some (rx_ia k 10 (o.2 10)) ∧ h (q + 8) = some (rx_ia k 10 (o.2 11)) ∧ h (q + 9) = some (rx_ia k 10 (o.2 12))
theorem bP.keep0 {k : Nat → Nat} {q g : Nat} {o : ob} {h h1 : hp} (hb : bP k q g o h) (hf : ∀ a : Nat, q ≤ a → a < q + 10 → h1 a = h a) : bP k q g o h1 := ⟨(hf _ (by omega) (by omega)).trans hb.1, (hf _ (by omega) (by omega)).trans hb.2.1, (hf _ (by omega) (by omega)).trans hb.2.2.1, (hf _ (by omega) (by omega)).trans hb.2.2.2.1, (hf _ (by omega) (by omega)).trans hb.2.2.2.2.1, (hf _ (by omega) (by omega)).trans hb.2.2.2.2.2.1, (hf _ (by omega) (by omega)).trans hb.2.2.2.2.2.2.1, (hf _ (by omega) (by omega)).trans hb.2.2.2.2.2.2.2.1, (hf _ (by omega) (by omega)).trans hb.2.2.2.2.2.2.2.2.1, (hf _ (by omega) (by omega)).trans hb.2.2.2.2.2.2.2.2.2⟩
theorem bP.keep {k : Nat → Nat} {q g : Nat} {o : ob} {h h1 : hp} {M : List (Nat × Nat)} (hb : bP k q g o h) (hf : rx_fr M h h1) (hd : rx_dis q 10 M) : bP k q g o h1 := hb.keep0 (fun a h2 h3 => hf a (rx_dis_out hd h2 h3))
theorem bP.put1 {k : Nat → Nat} {q g : Nat} {o : ob} {h : hp} {v : Int32} (hb : bP k q g o h) : bP k q g (upd o.1 1 v, o.2) (va_up h q (some (.inr (1, [.ref g, .int v, .int (o.1 2), .int (o.1 3), .ref (q + 1), .ref (q + 2), .ref (q + 3), .ref (q + 4), .ref (q + 5), .ref (q + 6), .ref (q + 7), .ref (q + 8), .ref (q + 9), .ref (q + 10), .ref (q + 13)])))) := by
  exact ⟨va_up_self _ _ _, (va_up_ne _ _ (by omega)).trans hb.2.1, (va_up_ne _ _ (by omega)).trans hb.2.2.1, (va_up_ne _ _ (by omega)).trans hb.2.2.2.1, (va_up_ne _ _ (by omega)).trans hb.2.2.2.2.1, (va_up_ne _ _ (by omega)).trans hb.2.2.2.2.2.1, (va_up_ne _ _ (by omega)).trans hb.2.2.2.2.2.2.1, (va_up_ne _ _ (by omega)).trans hb.2.2.2.2.2.2.2.1, (va_up_ne _ _ (by omega)).trans hb.2.2.2.2.2.2.2.2.1, (va_up_ne _ _ (by omega)).trans hb.2.2.2.2.2.2.2.2.2⟩
theorem bP.put2 {k : Nat → Nat} {q g : Nat} {o : ob} {h : hp} {v : Int32} (hb : bP k q g o h) : bP k q g (upd o.1 2 v, o.2) (va_up h q (some (.inr (1, [.ref g, .int (o.1 1), .int v, .int (o.1 3), .ref (q + 1), .ref (q + 2), .ref (q + 3), .ref (q + 4), .ref (q + 5), .ref (q + 6), .ref (q + 7), .ref (q + 8), .ref (q + 9), .ref (q + 10), .ref (q + 13)])))) := by
  exact ⟨va_up_self _ _ _, (va_up_ne _ _ (by omega)).trans hb.2.1, (va_up_ne _ _ (by omega)).trans hb.2.2.1, (va_up_ne _ _ (by omega)).trans hb.2.2.2.1, (va_up_ne _ _ (by omega)).trans hb.2.2.2.2.1, (va_up_ne _ _ (by omega)).trans hb.2.2.2.2.2.1, (va_up_ne _ _ (by omega)).trans hb.2.2.2.2.2.2.1, (va_up_ne _ _ (by omega)).trans hb.2.2.2.2.2.2.2.1, (va_up_ne _ _ (by omega)).trans hb.2.2.2.2.2.2.2.2.1, (va_up_ne _ _ (by omega)).trans hb.2.2.2.2.2.2.2.2.2⟩
theorem bP.put3 {k : Nat → Nat} {q g : Nat} {o : ob} {h : hp} {v : Int32} (hb : bP k q g o h) : bP k q g (upd o.1 3 v, o.2) (va_up h q (some (.inr (1, [.ref g, .int (o.1 1), .int (o.1 2), .int v, .ref (q + 1), .ref (q + 2), .ref (q + 3), .ref (q + 4), .ref (q + 5), .ref (q + 6), .ref (q + 7), .ref (q + 8), .ref (q + 9), .ref (q + 10), .ref (q + 13)])))) := by
  exact ⟨va_up_self _ _ _, (va_up_ne _ _ (by omega)).trans hb.2.1, (va_up_ne _ _ (by omega)).trans hb.2.2.1, (va_up_ne _ _ (by omega)).trans hb.2.2.2.1, (va_up_ne _ _ (by omega)).trans hb.2.2.2.2.1, (va_up_ne _ _ (by omega)).trans hb.2.2.2.2.2.1, (va_up_ne _ _ (by omega)).trans hb.2.2.2.2.2.2.1, (va_up_ne _ _ (by omega)).trans hb.2.2.2.2.2.2.2.1, (va_up_ne _ _ (by omega)).trans hb.2.2.2.2.2.2.2.2.1, (va_up_ne _ _ (by omega)).trans hb.2.2.2.2.2.2.2.2.2⟩
theorem bP.ast4 {k : Nat → Nat} {q g : Nat} {o : ob} {h : hp} {f : Nat → Int32} (hb : bP k q g o h) : bP k q g (o.1, va_up o.2 4 f) (va_up h (q + 1) (some (rx_ia k 2 f))) := by
  exact ⟨(va_up_ne _ _ (by omega)).trans hb.1, va_up_self _ _ _, (va_up_ne _ _ (by omega)).trans hb.2.2.1, (va_up_ne _ _ (by omega)).trans hb.2.2.2.1, (va_up_ne _ _ (by omega)).trans hb.2.2.2.2.1, (va_up_ne _ _ (by omega)).trans hb.2.2.2.2.2.1, (va_up_ne _ _ (by omega)).trans hb.2.2.2.2.2.2.1, (va_up_ne _ _ (by omega)).trans hb.2.2.2.2.2.2.2.1, (va_up_ne _ _ (by omega)).trans hb.2.2.2.2.2.2.2.2.1, (va_up_ne _ _ (by omega)).trans hb.2.2.2.2.2.2.2.2.2⟩
theorem bP.ast5 {k : Nat → Nat} {q g : Nat} {o : ob} {h : hp} {f : Nat → Int32} (hb : bP k q g o h) : bP k q g (o.1, va_up o.2 5 f) (va_up h (q + 2) (some (rx_ia k 10 f))) := by
  exact ⟨(va_up_ne _ _ (by omega)).trans hb.1, (va_up_ne _ _ (by omega)).trans hb.2.1, va_up_self _ _ _, (va_up_ne _ _ (by omega)).trans hb.2.2.2.1, (va_up_ne _ _ (by omega)).trans hb.2.2.2.2.1, (va_up_ne _ _ (by omega)).trans hb.2.2.2.2.2.1, (va_up_ne _ _ (by omega)).trans hb.2.2.2.2.2.2.1, (va_up_ne _ _ (by omega)).trans hb.2.2.2.2.2.2.2.1, (va_up_ne _ _ (by omega)).trans hb.2.2.2.2.2.2.2.2.1, (va_up_ne _ _ (by omega)).trans hb.2.2.2.2.2.2.2.2.2⟩
theorem bP.ast6 {k : Nat → Nat} {q g : Nat} {o : ob} {h : hp} {f : Nat → Int32} (hb : bP k q g o h) : bP k q g (o.1, va_up o.2 6 f) (va_up h (q + 3) (some (rx_ia k 10 f))) := by
  exact ⟨(va_up_ne _ _ (by omega)).trans hb.1, (va_up_ne _ _ (by omega)).trans hb.2.1, (va_up_ne _ _ (by omega)).trans hb.2.2.1, va_up_self _ _ _, (va_up_ne _ _ (by omega)).trans hb.2.2.2.2.1, (va_up_ne _ _ (by omega)).trans hb.2.2.2.2.2.1, (va_up_ne _ _ (by omega)).trans hb.2.2.2.2.2.2.1, (va_up_ne _ _ (by omega)).trans hb.2.2.2.2.2.2.2.1, (va_up_ne _ _ (by omega)).trans hb.2.2.2.2.2.2.2.2.1, (va_up_ne _ _ (by omega)).trans hb.2.2.2.2.2.2.2.2.2⟩
theorem bP.ast7 {k : Nat → Nat} {q g : Nat} {o : ob} {h : hp} {f : Nat → Int32} (hb : bP k q g o h) : bP k q g (o.1, va_up o.2 7 f) (va_up h (q + 4) (some (rx_ia k 10 f))) := by
  exact ⟨(va_up_ne _ _ (by omega)).trans hb.1, (va_up_ne _ _ (by omega)).trans hb.2.1, (va_up_ne _ _ (by omega)).trans hb.2.2.1, (va_up_ne _ _ (by omega)).trans hb.2.2.2.1, va_up_self _ _ _, (va_up_ne _ _ (by omega)).trans hb.2.2.2.2.2.1, (va_up_ne _ _ (by omega)).trans hb.2.2.2.2.2.2.1, (va_up_ne _ _ (by omega)).trans hb.2.2.2.2.2.2.2.1, (va_up_ne _ _ (by omega)).trans hb.2.2.2.2.2.2.2.2.1, (va_up_ne _ _ (by omega)).trans hb.2.2.2.2.2.2.2.2.2⟩
theorem bP.ast8 {k : Nat → Nat} {q g : Nat} {o : ob} {h : hp} {f : Nat → Int32} (hb : bP k q g o h) : bP k q g (o.1, va_up o.2 8 f) (va_up h (q + 5) (some (rx_ia k 10 f))) := by
  exact ⟨(va_up_ne _ _ (by omega)).trans hb.1, (va_up_ne _ _ (by omega)).trans hb.2.1, (va_up_ne _ _ (by omega)).trans hb.2.2.1, (va_up_ne _ _ (by omega)).trans hb.2.2.2.1, (va_up_ne _ _ (by omega)).trans hb.2.2.2.2.1, va_up_self _ _ _, (va_up_ne _ _ (by omega)).trans hb.2.2.2.2.2.2.1, (va_up_ne _ _ (by omega)).trans hb.2.2.2.2.2.2.2.1, (va_up_ne _ _ (by omega)).trans hb.2.2.2.2.2.2.2.2.1, (va_up_ne _ _ (by omega)).trans hb.2.2.2.2.2.2.2.2.2⟩
theorem bP.ast9 {k : Nat → Nat} {q g : Nat} {o : ob} {h : hp} {f : Nat → Int32} (hb : bP k q g o h) : bP k q g (o.1, va_up o.2 9 f) (va_up h (q + 6) (some (rx_ia k 10 f))) := by
  exact ⟨(va_up_ne _ _ (by omega)).trans hb.1, (va_up_ne _ _ (by omega)).trans hb.2.1, (va_up_ne _ _ (by omega)).trans hb.2.2.1, (va_up_ne _ _ (by omega)).trans hb.2.2.2.1, (va_up_ne _ _ (by omega)).trans hb.2.2.2.2.1, (va_up_ne _ _ (by omega)).trans hb.2.2.2.2.2.1, va_up_self _ _ _, (va_up_ne _ _ (by omega)).trans hb.2.2.2.2.2.2.2.1, (va_up_ne _ _ (by omega)).trans hb.2.2.2.2.2.2.2.2.1, (va_up_ne _ _ (by omega)).trans hb.2.2.2.2.2.2.2.2.2⟩
theorem bP.ast10 {k : Nat → Nat} {q g : Nat} {o : ob} {h : hp} {f : Nat → Int32} (hb : bP k q g o h) : bP k q g (o.1, va_up o.2 10 f) (va_up h (q + 7) (some (rx_ia k 10 f))) := by
  exact ⟨(va_up_ne _ _ (by omega)).trans hb.1, (va_up_ne _ _ (by omega)).trans hb.2.1, (va_up_ne _ _ (by omega)).trans hb.2.2.1, (va_up_ne _ _ (by omega)).trans hb.2.2.2.1, (va_up_ne _ _ (by omega)).trans hb.2.2.2.2.1, (va_up_ne _ _ (by omega)).trans hb.2.2.2.2.2.1, (va_up_ne _ _ (by omega)).trans hb.2.2.2.2.2.2.1, va_up_self _ _ _, (va_up_ne _ _ (by omega)).trans hb.2.2.2.2.2.2.2.2.1, (va_up_ne _ _ (by omega)).trans hb.2.2.2.2.2.2.2.2.2⟩
theorem bP.ast11 {k : Nat → Nat} {q g : Nat} {o : ob} {h : hp} {f : Nat → Int32} (hb : bP k q g o h) : bP k q g (o.1, va_up o.2 11 f) (va_up h (q + 8) (some (rx_ia k 10 f))) := by
  exact ⟨(va_up_ne _ _ (by omega)).trans hb.1, (va_up_ne _ _ (by omega)).trans hb.2.1, (va_up_ne _ _ (by omega)).trans hb.2.2.1, (va_up_ne _ _ (by omega)).trans hb.2.2.2.1, (va_up_ne _ _ (by omega)).trans hb.2.2.2.2.1, (va_up_ne _ _ (by omega)).trans hb.2.2.2.2.2.1, (va_up_ne _ _ (by omega)).trans hb.2.2.2.2.2.2.1, (va_up_ne _ _ (by omega)).trans hb.2.2.2.2.2.2.2.1, va_up_self _ _ _, (va_up_ne _ _ (by omega)).trans hb.2.2.2.2.2.2.2.2.2⟩
theorem bP.ast12 {k : Nat → Nat} {q g : Nat} {o : ob} {h : hp} {f : Nat → Int32} (hb : bP k q g o h) : bP k q g (o.1, va_up o.2 12 f) (va_up h (q + 9) (some (rx_ia k 10 f))) := by
  exact ⟨(va_up_ne _ _ (by omega)).trans hb.1, (va_up_ne _ _ (by omega)).trans hb.2.1, (va_up_ne _ _ (by omega)).trans hb.2.2.1, (va_up_ne _ _ (by omega)).trans hb.2.2.2.1, (va_up_ne _ _ (by omega)).trans hb.2.2.2.2.1, (va_up_ne _ _ (by omega)).trans hb.2.2.2.2.2.1, (va_up_ne _ _ (by omega)).trans hb.2.2.2.2.2.2.1, (va_up_ne _ _ (by omega)).trans hb.2.2.2.2.2.2.2.1, (va_up_ne _ _ (by omega)).trans hb.2.2.2.2.2.2.2.2.1, va_up_self _ _ _⟩
def bH (k : Nat → Nat) (q : Nat) (o : ob) (h : hp) : Prop := h q = some (.inr (0, [.ref (q + 1), .int (o.1 1), .int (o.1 2)])) ∧ h (q + 1) = some (rx_qa (k 3) 8 (fun j => if j < 8 then some (q + 2 + 16 * j) else none))
theorem bH.keep0 {k : Nat → Nat} {q : Nat} {o : ob} {h h1 : hp} (hb : bH k q o h) (hf : ∀ a : Nat, q ≤ a → a < q + 2 → h1 a = h a) : bH k q o h1 := ⟨(hf _ (by omega) (by omega)).trans hb.1, (hf _ (by omega) (by omega)).trans hb.2⟩
theorem bH.keep {k : Nat → Nat} {q : Nat} {o : ob} {h h1 : hp} {M : List (Nat × Nat)} (hb : bH k q o h) (hf : rx_fr M h h1) (hd : rx_dis q 2 M) : bH k q o h1 := hb.keep0 (fun a h2 h3 => hf a (rx_dis_out hd h2 h3))
theorem bH.put1 {k : Nat → Nat} {q : Nat} {o : ob} {h : hp} {v : Int32} (hb : bH k q o h) : bH k q (upd o.1 1 v, o.2) (va_up h q (some (.inr (0, [.ref (q + 1), .int v, .int (o.1 2)])))) := by
  exact ⟨va_up_self _ _ _, (va_up_ne _ _ (by omega)).trans hb.2⟩
theorem bH.put2 {k : Nat → Nat} {q : Nat} {o : ob} {h : hp} {v : Int32} (hb : bH k q o h) : bH k q (upd o.1 2 v, o.2) (va_up h q (some (.inr (0, [.ref (q + 1), .int (o.1 1), .int v])))) := by
  exact ⟨va_up_self _ _ _, (va_up_ne _ _ (by omega)).trans hb.2⟩
def bC (k : Nat → Nat) (q : Nat) (o : obv) (h : hp) : Prop := h q = some (.inr (3, [.ref (q + 1), .ref (q + 2), .ref (q + 3), .int (o.1.1 3)])) ∧ h (q + 1) = some (rx_qa (k 4) 20 (fun j => (o.2 j).map (fun z => k (10 + z)))) ∧ h (q + 2) = some (rx_ia k 20 (o.1.2 1)) ∧ h (q + 3) = some (rx_ia k 20 (o.1.2 2)) ∧ (∀ j z, o.2 j = some z → z < 9)
theorem bC.keep0 {k : Nat → Nat} {q : Nat} {o : obv} {h h1 : hp} (hb : bC k q o h) (hf : ∀ a : Nat, q ≤ a → a < q + 4 → h1 a = h a) : bC k q o h1 := ⟨(hf _ (by omega) (by omega)).trans hb.1, (hf _ (by omega) (by omega)).trans hb.2.1, (hf _ (by omega) (by omega)).trans hb.2.2.1, (hf _ (by omega) (by omega)).trans hb.2.2.2.1, hb.2.2.2.2⟩
theorem bC.keep {k : Nat → Nat} {q : Nat} {o : obv} {h h1 : hp} {M : List (Nat × Nat)} (hb : bC k q o h) (hf : rx_fr M h h1) (hd : rx_dis q 4 M) : bC k q o h1 := hb.keep0 (fun a h2 h3 => hf a (rx_dis_out hd h2 h3))
theorem bC.put3 {k : Nat → Nat} {q : Nat} {o : obv} {h : hp} {v : Int32} (hb : bC k q o h) : bC k q ((upd o.1.1 3 v, o.1.2), o.2) (va_up h q (some (.inr (3, [.ref (q + 1), .ref (q + 2), .ref (q + 3), .int v])))) := by
  exact ⟨va_up_self _ _ _, (va_up_ne _ _ (by omega)).trans hb.2.1, (va_up_ne _ _ (by omega)).trans hb.2.2.1, (va_up_ne _ _ (by omega)).trans hb.2.2.2.1, hb.2.2.2.2⟩
theorem bC.vst {k : Nat → Nat} {q i z0 : Nat} {o : obv} {h : hp} (hb : bC k q o h) (hz0 : z0 < 9) : bC k q (o.1, va_up o.2 i (some z0)) (va_up h (q + 1) (some (rx_qa (k 4) 20 (va_up (fun j => (o.2 j).map (fun z => k (10 + z))) i (some (k (10 + z0))))))) := by
  exact ⟨(va_up_ne _ _ (by omega)).trans hb.1, (va_up_self _ _ _).trans (by rw [rx_vmap]), (va_up_ne _ _ (by omega)).trans hb.2.2.1, (va_up_ne _ _ (by omega)).trans hb.2.2.2.1, (fun j z hz2 => by by_cases e : j = i <;> simp [va_up, e] at hz2 <;> first | omega | exact hb.2.2.2.2 j z hz2)⟩
theorem bC.ast1 {k : Nat → Nat} {q : Nat} {o : obv} {h : hp} {f : Nat → Int32} (hb : bC k q o h) : bC k q ((o.1.1, va_up o.1.2 1 f), o.2) (va_up h (q + 2) (some (rx_ia k 20 f))) := by
  exact ⟨(va_up_ne _ _ (by omega)).trans hb.1, (va_up_ne _ _ (by omega)).trans hb.2.1, va_up_self _ _ _, (va_up_ne _ _ (by omega)).trans hb.2.2.2.1, hb.2.2.2.2⟩
theorem bC.ast2 {k : Nat → Nat} {q : Nat} {o : obv} {h : hp} {f : Nat → Int32} (hb : bC k q o h) : bC k q ((o.1.1, va_up o.1.2 2 f), o.2) (va_up h (q + 3) (some (rx_ia k 20 f))) := by
  exact ⟨(va_up_ne _ _ (by omega)).trans hb.1, (va_up_ne _ _ (by omega)).trans hb.2.1, (va_up_ne _ _ (by omega)).trans hb.2.2.1, va_up_self _ _ _, hb.2.2.2.2⟩
def bM (k : Nat → Nat) (q : Nat) (o : ob) (h : hp) : Prop := h q = some (.inr (8, [.ref (q + 1), .ref (q + 2), .int (o.1 2), .int (o.1 3), .int (o.1 4)])) ∧ h (q + 1) = some (rx_ia k 500 (o.2 0)) ∧ h (q + 2) = some (rx_ia k 5 (o.2 1))
theorem bM.keep0 {k : Nat → Nat} {q : Nat} {o : ob} {h h1 : hp} (hb : bM k q o h) (hf : ∀ a : Nat, q ≤ a → a < q + 3 → h1 a = h a) : bM k q o h1 := ⟨(hf _ (by omega) (by omega)).trans hb.1, (hf _ (by omega) (by omega)).trans hb.2.1, (hf _ (by omega) (by omega)).trans hb.2.2⟩
theorem bM.keep {k : Nat → Nat} {q : Nat} {o : ob} {h h1 : hp} {M : List (Nat × Nat)} (hb : bM k q o h) (hf : rx_fr M h h1) (hd : rx_dis q 3 M) : bM k q o h1 := hb.keep0 (fun a h2 h3 => hf a (rx_dis_out hd h2 h3))
theorem bM.put2 {k : Nat → Nat} {q : Nat} {o : ob} {h : hp} {v : Int32} (hb : bM k q o h) : bM k q (upd o.1 2 v, o.2) (va_up h q (some (.inr (8, [.ref (q + 1), .ref (q + 2), .int v, .int (o.1 3), .int (o.1 4)])))) := by
  exact ⟨va_up_self _ _ _, (va_up_ne _ _ (by omega)).trans hb.2.1, (va_up_ne _ _ (by omega)).trans hb.2.2⟩
theorem bM.put3 {k : Nat → Nat} {q : Nat} {o : ob} {h : hp} {v : Int32} (hb : bM k q o h) : bM k q (upd o.1 3 v, o.2) (va_up h q (some (.inr (8, [.ref (q + 1), .ref (q + 2), .int (o.1 2), .int v, .int (o.1 4)])))) := by
  exact ⟨va_up_self _ _ _, (va_up_ne _ _ (by omega)).trans hb.2.1, (va_up_ne _ _ (by omega)).trans hb.2.2⟩
theorem bM.put4 {k : Nat → Nat} {q : Nat} {o : ob} {h : hp} {v : Int32} (hb : bM k q o h) : bM k q (upd o.1 4 v, o.2) (va_up h q (some (.inr (8, [.ref (q + 1), .ref (q + 2), .int (o.1 2), .int (o.1 3), .int v])))) := by
  exact ⟨va_up_self _ _ _, (va_up_ne _ _ (by omega)).trans hb.2.1, (va_up_ne _ _ (by omega)).trans hb.2.2⟩
theorem bM.ast0 {k : Nat → Nat} {q : Nat} {o : ob} {h : hp} {f : Nat → Int32} (hb : bM k q o h) : bM k q (o.1, va_up o.2 0 f) (va_up h (q + 1) (some (rx_ia k 500 f))) := by
  exact ⟨(va_up_ne _ _ (by omega)).trans hb.1, va_up_self _ _ _, (va_up_ne _ _ (by omega)).trans hb.2.2⟩
theorem bM.ast1 {k : Nat → Nat} {q : Nat} {o : ob} {h : hp} {f : Nat → Int32} (hb : bM k q o h) : bM k q (o.1, va_up o.2 1 f) (va_up h (q + 2) (some (rx_ia k 5 f))) := by
  exact ⟨(va_up_ne _ _ (by omega)).trans hb.1, (va_up_ne _ _ (by omega)).trans hb.2.1, va_up_self _ _ _⟩
def bB (k : Nat → Nat) (q : Nat) (o : ob) (h : hp) : Prop := h q = some (.inr (7, [.ref (q + 1), .ref (q + 3), .ref (q + 12), .ref (q + 21), .ref (q + 37), .ref (q + 53), .ref (q + 69), .ref (q + 199), .ref (q + 203), .int (o.1 9), .int (o.1 10)]))
theorem bB.keep0 {k : Nat → Nat} {q : Nat} {o : ob} {h h1 : hp} (hb : bB k q o h) (hf : ∀ a : Nat, q ≤ a → a < q + 1 → h1 a = h a) : bB k q o h1 := (hf _ (by omega) (by omega)).trans hb
theorem bB.keep {k : Nat → Nat} {q : Nat} {o : ob} {h h1 : hp} {M : List (Nat × Nat)} (hb : bB k q o h) (hf : rx_fr M h h1) (hd : rx_dis q 1 M) : bB k q o h1 := hb.keep0 (fun a h2 h3 => hf a (rx_dis_out hd h2 h3))
theorem bB.put9 {k : Nat → Nat} {q : Nat} {o : ob} {h : hp} {v : Int32} (hb : bB k q o h) : bB k q (upd o.1 9 v, o.2) (va_up h q (some (.inr (7, [.ref (q + 1), .ref (q + 3), .ref (q + 12), .ref (q + 21), .ref (q + 37), .ref (q + 53), .ref (q + 69), .ref (q + 199), .ref (q + 203), .int v, .int (o.1 10)])))) := by
  exact va_up_self _ _ _
theorem bB.put10 {k : Nat → Nat} {q : Nat} {o : ob} {h : hp} {v : Int32} (hb : bB k q o h) : bB k q (upd o.1 10 v, o.2) (va_up h q (some (.inr (7, [.ref (q + 1), .ref (q + 3), .ref (q + 12), .ref (q + 21), .ref (q + 37), .ref (q + 53), .ref (q + 69), .ref (q + 199), .ref (q + 203), .int (o.1 9), .int v])))) := by
  exact va_up_self _ _ _
def bO (k : Nat → Nat) (q : Nat) (o : ob) (h : hp) : Prop := h q = some (rx_ia k 64 (o.2 0))
theorem bO.keep0 {k : Nat → Nat} {q : Nat} {o : ob} {h h1 : hp} (hb : bO k q o h) (hf : ∀ a : Nat, q ≤ a → a < q + 1 → h1 a = h a) : bO k q o h1 := (hf _ (by omega) (by omega)).trans hb
theorem bO.keep {k : Nat → Nat} {q : Nat} {o : ob} {h h1 : hp} {M : List (Nat × Nat)} (hb : bO k q o h) (hf : rx_fr M h h1) (hd : rx_dis q 1 M) : bO k q o h1 := hb.keep0 (fun a h2 h3 => hf a (rx_dis_out hd h2 h3))
theorem bO.ast0 {k : Nat → Nat} {q : Nat} {o : ob} {h : hp} {f : Nat → Int32} (hb : bO k q o h) : bO k q (o.1, va_up o.2 0 f) (va_up h q (some (rx_ia k 64 f))) := by
  exact va_up_self _ _ _
end
section
/-! The four readers and writers of rows, by hand. -/
abbrev rx_rm (f lo : Nat) : Room := { frames := f, cells := 0, slots := 0, locals := lo }
set_option maxRecDepth 100000 in
theorem mc_min : Cond.code Lib.Math.min.name Lib.Math.min.code 2 (some .int) ∈ rx_good := (rx_g2 34 rfl rfl)
set_option maxRecDepth 100000 in
theorem ms_min : Cond.static Lib.Math.min.name ∈ rx_good := (rx_g2 33 rfl rfl)
set_option maxRecDepth 100000 in
theorem mc_max : Cond.code Lib.Math.max.name Lib.Math.max.code 2 (some .int) ∈ rx_good := (rx_g4 224 rfl rfl)
set_option maxRecDepth 100000 in
theorem ms_max : Cond.static Lib.Math.max.name ∈ rx_good := (rx_g4 223 rfl rfl)
set_option maxRecDepth 100000 in
theorem mc_abs : Cond.code Lib.Math.abs.name Lib.Math.abs.code 1 (some .int) ∈ rx_good := (rx_g2 105 rfl rfl)
set_option maxRecDepth 100000 in
theorem ms_abs : Cond.static Lib.Math.abs.name ∈ rx_good := (rx_g2 104 rfl rfl)
set_option maxRecDepth 100000 in
theorem mi_math : Cond.initialized "java/lang/Math" ∈ rx_good := (rx_g1 8 rfl rfl)
set_option maxRecDepth 100000 in
theorem ac_link : Cond.methodLink RX8 411 arraycopyName ∈ rx_good := (rx_g2 35 rfl rfl)
set_option maxRecDepth 100000 in
theorem ac_nat : Cond.native arraycopyName ∈ rx_good := (rx_g2 37 rfl rfl)
set_option maxRecDepth 100000 in
theorem ac_stat : Cond.static arraycopyName ∈ rx_good := (rx_g2 36 rfl rfl)
set_option maxRecDepth 100000 in
theorem ac_ini : Cond.initialized "java/lang/System" ∈ rx_good := (rx_g1 9 rfl rfl)
section RCP
variable {p : Program} {l : Launch} {e : Env} {R : Room} {s : State} {m : MethodId} {args : Array Value} {below : List Frame} {meth : Method} {c : Code} {Q : State → Prop} {G : va_G} {k : Nat → Nat} {cc : ByteArray} {own : String} {nL : Nat} {ret : Option FieldType} {cells slots : Nat} {h : hp} {n pc : Nat} {L : List (Nat × Value)} {st : List Value}
/-- System.arraycopy of a whole beginning, between two int rows -/
theorem rx_copy (C : rx_C G k p m c cc own nL ret s args meth) {index : Nat} (hlink : Cond.methodLink own index arraycopyName ∈ rx_good) (hnat : Cond.native arraycopyName ∈ rx_good) (hstat : Cond.static arraycopyName ∈ rx_good) (hini : Cond.initialized "java/lang/System" ∈ rx_good)
    {a b n0 n1 w : Nat} {f g : Nat → Int32} (ha : h a = some (rx_ia k n0 f)) (hb : h b = some (rx_ia k n1 g)) (hw0 : w ≤ n0) (hw1 : w ≤ n1) (hw : w < 2 ^ 31) (hframes : 1 ≤ R.frames) (hlocals : (st.map fun v => v.category).sum + (nativeFrameWords "java/lang/System" "arraycopy" 5 + 11) ≤ R.locals) (hdg : decode cc pc = .ok (.invokestatic index, 3))
    (K : rx_W p l e R s m args below meth c Q G k nL cells slots (va_up h b (some (rx_ia k n1 (va_cpy f g 0 0 w)))) n (pc + 3) L st) : rx_W p l e R s m args below meth c Q G k nL cells slots h n pc L (.int (nI w) :: .int 0 :: .ref b :: .int 0 :: .ref a :: st) := fun H locs ls hP hS hl => by
  intro T hT X
  obtain ⟨-, -, hc0⟩ := hP.2.2 a _ ha
  obtain ⟨hB, hlt, hc1⟩ := hP.2.2 b _ hb
  have hc0 : H[a]? = some (vp_cell (k 1) (n0, .inl f)) := hc0
  have hc1 : H[b]? = some (vp_cell (k 1) (n1, .inl g)) := hc1
  have hK0 := (C.2.2.2.2.2.2.2.1.1.2 0 _ rfl).1
  obtain ⟨-, k0, hk0, cm0, hkk0⟩ := hK0 n0 (fun j => .int (f j))
  obtain ⟨-, k1, hk1, cm1, hkk1⟩ := hK0 n1 (fun j => .int (g j))
  have hcl : (nI w).toNatClampNeg = w := nI_clamp hw
  have hti : (nI w).toInt = (w : Int) := nI_toInt hw
  obtain ⟨vm', X', step⟩ := X.arraycopy C.1 C.2.2.1 (C.2.2.2.1 _ hlink) (C.2.2.2.1 _ hnat) (C.2.2.2.1 _ hstat) (C.2.2.2.1 _ hini) (src := a) (dst := b) (cs := vp_cell (k 1) (n0, .inl f)) (cd := vp_cell (k 1) (n1, .inl g)) (srcPos := 0) (destPos := 0) (n := nI w) (by rw [hT]; exact hc0) (by rw [hT]; exact hc1)
    (fun _ h => by cases h) (fun _ h => by cases h) (fun h => by cases h) (fun h => by cases h) hk0 hk1 hkk0 hkk1 (by simp [refKind]) (by decide) (by decide) (nI_pos hw)
    (by rw [hti]; show ¬ _ > ((arrV (k 1) n0 (fun j => .int (f j))).slots.size : Int); rw [arrV_size]; have : (0 : Int32).toInt = 0 := rfl; omega)
    (by rw [hti]; show ¬ _ > ((arrV (k 1) n1 (fun j => .int (g j))).slots.size : Int); rw [arrV_size]; have : (0 : Int32).toInt = 0 := rfl; omega)
    (fun vm₁ _ i hi => by
      have hz : (0 : Int32).toNatClampNeg = 0 := rfl
      rw [hcl] at hi
      have e : (vp_cell (k 1) (n0, .inl f)).slots.getD ((0 : Int32).toNatClampNeg + i) .null = .int (f i) := by
        show (arrV (k 1) n0 (fun j => .int (f j))).slots.getD _ _ = _
        rw [hz, Nat.zero_add, Array.getD_eq_getD_getElem?, arrV_read _ _ (by omega)]
        rfl
      exact ⟨by rw [e]; rfl, by rw [e]; exact trivial⟩)
    (g := F0 m pc ls (.int (nI w) :: .int 0 :: .ref b :: .int 0 :: .ref a :: st)) rfl (by rw [C.2.2.2.2.1]; exact hl.1) (rest := st) rfl (by rw [C.2.1]; exact hdg) hframes (by show 2 * 0 + _ + _ ≤ _; omega)
  have e1 : copied (vp_cell (k 1) (n0, .inl f)) (vp_cell (k 1) (n1, .inl g)) 0 0 (nI w) = vp_cell (k 1) (n1, .inl (va_cpy f g 0 0 w)) := by
    show (arrV (k 1) n1 (fun j => .int (g j))).storeRun (0 : Int32).toNatClampNeg ((arrV (k 1) n0 (fun j => .int (f j))).stretch (0 : Int32).toNatClampNeg (nI w).toNatClampNeg) = arrV (k 1) n1 (fun j => .int (va_cpy f g 0 0 w j))
    rw [hcl]
    exact va_copied (fun z => .int z) (k 1) (k 1) (n0 := n0) (n1 := n1) (sp := 0) (dp := 0) (n := w) f g (by omega)
  rw [e1] at X' step
  obtain ⟨t, a1, b1⟩ := K (H.setIfInBounds b (vp_cell (k 1) (n1, .inl (va_cpy f g 0 0 w)))) _ ls (hP.put hb (show (H.setIfInBounds b _)[b]? = some _ by
      have hl2 : b < H.size := by rw [hP.1]; exact hlt
      simp [Array.getElem?_setIfInBounds, hl2]) (by simp) (fun q hq => by simp [Array.getElem?_setIfInBounds, Ne.symm hq])) ⟨by simp; exact hS.1, fun q g1 g2 => by
      have hne : q ≠ b := fun z => g2 (by rw [z]; exact hB)
      rw [show (H.setIfInBounds b (vp_cell (k 1) (n1, .inl (va_cpy f g 0 0 w))))[q]? = H[q]? by simp [Array.getElem?_setIfInBounds, Ne.symm hne]]
      exact hS.2.1 q g1 g2, fun q hq => by
      rcases List.mem_append.mp hq with h | h
      · exact hS.2.2 q h
      · obtain ⟨z, -, hz⟩ := List.mem_map.mp h
        rw [← hz]
        exact hB⟩ hl _ (by rw [← hT]; rfl) X'
  exact ⟨t, step t a1, b1⟩
theorem rx_mmin (C : rx_C G k p m c cc own nL ret s args meth) {index : Nat} (hlink : Cond.methodLink own index Lib.Math.min.name ∈ rx_good) (hframes : 1 ≤ R.frames) (hlocals : (st.map fun v => v.category).sum + 13 ≤ R.locals) (hc : cells ≤ R.cells) (hs : slots ≤ R.slots) {x y : Int32} (hdg : decode cc pc = .ok (.invokestatic index, 3))
    (K : rx_W p l e R s m args below meth c Q G k nL cells slots h n (pc + 3) L (.int (if y < x then y else x) :: st)) : rx_W p l e R s m args below meth c Q G k nL cells slots h n pc L (.int y :: .int x :: st) := fun H locs ls hP hS hl =>
  va_mmin C.1 C.2.1 (by rw [C.2.2.2.2.1]; exact hl.1.symm) C.2.2.1 (C.2.2.2.1 _ hlink) (C.2.2.2.1 _ ms_min) (C.2.2.2.1 _ mi_math) (C.2.2.2.1 _ mc_min) hframes hlocals hc hs hdg (K H locs ls hP hS hl)
theorem rx_mmax (C : rx_C G k p m c cc own nL ret s args meth) {index : Nat} (hlink : Cond.methodLink own index Lib.Math.max.name ∈ rx_good) (hframes : 1 ≤ R.frames) (hlocals : (st.map fun v => v.category).sum + 13 ≤ R.locals) (hc : cells ≤ R.cells) (hs : slots ≤ R.slots) {x y : Int32} (hdg : decode cc pc = .ok (.invokestatic index, 3))
    (K : rx_W p l e R s m args below meth c Q G k nL cells slots h n (pc + 3) L (.int (if x < y then y else x) :: st)) : rx_W p l e R s m args below meth c Q G k nL cells slots h n pc L (.int y :: .int x :: st) := fun H locs ls hP hS hl =>
  va_mmax C.1 C.2.1 (by rw [C.2.2.2.2.1]; exact hl.1.symm) C.2.2.1 (C.2.2.2.1 _ hlink) (C.2.2.2.1 _ ms_max) (C.2.2.2.1 _ mi_math) (C.2.2.2.1 _ mc_max) hframes hlocals hc hs hdg (K H locs ls hP hS hl)
theorem rx_mabs (C : rx_C G k p m c cc own nL ret s args meth) {index : Nat} (hlink : Cond.methodLink own index Lib.Math.abs.name ∈ rx_good) (hframes : 1 ≤ R.frames) (hlocals : (st.map fun v => v.category).sum + 13 ≤ R.locals) (hc : cells ≤ R.cells) (hs : slots ≤ R.slots) {x : Int32} (hdg : decode cc pc = .ok (.invokestatic index, 3))
    (K : rx_W p l e R s m args below meth c Q G k nL cells slots h n (pc + 3) L (.int (if 0 ≤ x then x else 0 - x) :: st)) : rx_W p l e R s m args below meth c Q G k nL cells slots h n pc L (.int x :: st) := fun H locs ls hP hS hl =>
  va_mabs C.1 C.2.1 (by rw [C.2.2.2.2.1]; exact hl.1.symm) C.2.2.1 (C.2.2.2.1 _ hlink) (C.2.2.2.1 _ ms_abs) (C.2.2.2.1 _ mi_math) (C.2.2.2.1 _ mc_abs) hframes hlocals hc hs hdg (K H locs ls hP hS hl)
end RCP
section RAT
variable {l : Launch} {G : va_G} {k : Nat → Nat} {h : hp} {n : Nat}
theorem w_at {a len : Nat} {f : Nat → Int32} {i : Int32} (ha : h a = some (rx_ia k len f)) (hlen : len < 2 ^ 31) : Met l yX8_at (rx_ws yX8_at cX8_at 2 (some .int)) (rx_rm 0 0) (va_Pc [.ref a, .int i] (rx_G G k h n)) (va_Qi (fun r u => r = rx_at len f i ∧ u = (h, n)) (rx_B G k) (rx_A k)) 0 0 (rx_A k) := by
  refine rx_start [(0, .ref a), (1, .int i)] rfl (Nat.le_of_ble_eq_true rfl) (by decide) rfl (fun p e s m args below meth c C hname => ?_)
  refine rx_iload_n C dX8_at_0 1 rfl ?_
  refine rx_if_lt C dX8_at_1 16 (by decide) (fun c1 => ?_) (fun c1 => ?_)
  · refine rx_iconst C dX8_at_16 0 (by decide) ?_
    exact rx_iret C dX8_at_17 (Nat.le_refl _) (Nat.le_refl _) ⟨by unfold rx_at; rw [if_pos c1], rfl⟩
  · refine rx_iload_n C dX8_at_4 1 rfl ?_
    refine rx_aload_n C dX8_at_5 0 rfl ?_
    refine rx_alen C 0 rfl dX8_at_6 ha ?_
    refine rx_icmp_ge C dX8_at_7 16 (by decide) (fun c2 => ?_) (fun c2 => ?_)
    · refine rx_iconst C dX8_at_16 0 (by decide) ?_
      exact rx_iret C dX8_at_17 (Nat.le_refl _) (Nat.le_refl _) ⟨by unfold rx_at; rw [if_neg c1, if_pos c2], rfl⟩
    · refine rx_aload_n C dX8_at_10 0 rfl ?_
      refine rx_iload_n C dX8_at_11 1 rfl ?_
      have hin : vp_in i len := by
        intro q
        rcases q with q | q
        · exact c1 q
        · apply c2
          rw [Int32.le_iff_toInt_le, nI_toInt hlen]
          have h0 : ¬ i.toInt < 0 := fun z => c1 (by rw [Int32.lt_iff_toInt_lt]; exact z)
          have h1 : i.toNatClampNeg = i.toInt.toNat := rfl
          omega
      refine rx_iald C dX8_at_12 ha hin ?_
      refine rx_goto C dX8_at_13 17 (by decide) ?_
      exact rx_iret C dX8_at_17 (Nat.le_refl _) (Nat.le_refl _) ⟨by unfold rx_at; rw [if_neg c1, if_neg c2], rfl⟩
theorem w_put {a len : Nat} {f : Nat → Int32} {i v : Int32} (ha : h a = some (rx_ia k len f)) (hlen : len < 2 ^ 31) : Met l yX8_put (rx_ws yX8_put cX8_put 3 none) (rx_rm 0 0) (va_Pc [.ref a, .int i, .int v] (rx_G G k h n)) (va_Qv (fun u => u = (va_up h a (some (rx_ia k len (rx_put len f i v))), n)) (rx_B G k) (rx_A k)) 0 0 (rx_A k) := by
  refine rx_start [(0, .ref a), (1, .int i), (2, .int v)] rfl (Nat.le_of_ble_eq_true rfl) (by decide) rfl (fun p e s m args below meth c C hname => ?_)
  have hsame : va_up h a (some (rx_ia k len f)) = h := by
    funext b
    by_cases e : b = a
    · subst e; rw [va_up_self, ha]
    · rw [va_up_ne _ _ e]
  refine rx_iload_n C dX8_put_0 1 rfl ?_
  refine rx_if_lt C dX8_put_1 14 (by decide) (fun c1 => ?_) (fun c1 => ?_)
  · exact rx_vret C dX8_put_14 (Nat.le_refl _) (Nat.le_refl _) (by unfold rx_put; rw [if_pos c1, hsame])
  · refine rx_iload_n C dX8_put_4 1 rfl ?_
    refine rx_aload_n C dX8_put_5 0 rfl ?_
    refine rx_alen C 0 rfl dX8_put_6 ha ?_
    refine rx_icmp_ge C dX8_put_7 14 (by decide) (fun c2 => ?_) (fun c2 => ?_)
    · exact rx_vret C dX8_put_14 (Nat.le_refl _) (Nat.le_refl _) (by unfold rx_put; rw [if_neg c1, if_pos c2, hsame])
    · refine rx_aload_n C dX8_put_10 0 rfl ?_
      refine rx_iload_n C dX8_put_11 1 rfl ?_
      refine rx_iload_n C dX8_put_12 2 rfl ?_
      have hin : vp_in i len := by
        intro q
        rcases q with q | q
        · exact c1 q
        · apply c2
          rw [Int32.le_iff_toInt_le, nI_toInt hlen]
          have h0 : ¬ i.toInt < 0 := fun z => c1 (by rw [Int32.lt_iff_toInt_lt]; exact z)
          have h1 : i.toNatClampNeg = i.toInt.toNat := rfl
          omega
      refine rx_iast C dX8_put_13 ha hin ?_
      exact rx_vret C dX8_put_14 (Nat.le_refl _) (Nat.le_refl _) (by unfold rx_put; rw [if_neg c1, if_neg c2])
theorem w_add {a len : Nat} {f : Nat → Int32} {i v : Int32} (ha : h a = some (rx_ia k len f)) (hlen : len < 2 ^ 31) : Met l yX8_add (rx_ws yX8_add cX8_add 3 none) (rx_rm 1 22) (va_Pc [.ref a, .int i, .int v] (rx_G G k h n)) (va_Qv (fun u => u = (va_up h a (some (rx_ia k len (rx_put len f i (rx_at len f i + v)))), n)) (rx_B G k) (rx_A k)) 0 0 (rx_A k) := by
  refine rx_start [(0, .ref a), (1, .int i), (2, .int v)] rfl (Nat.le_of_ble_eq_true rfl) (by decide) rfl (fun p e s m args below meth c C hname => ?_)
  refine rx_aload_n C dX8_add_0 0 rfl ?_
  refine rx_iload_n C dX8_add_1 1 rfl ?_
  refine rx_aload_n C dX8_add_2 0 rfl ?_
  refine rx_iload_n C dX8_add_3 1 rfl ?_
  refine rx_ci (rx_rS C (w_at ha hlen) Y_X8_at S_X8_at m_X8_136 ⟨⟨rfl, rfl⟩, ⟨Nat.le_of_ble_eq_true rfl, Nat.le_of_ble_eq_true rfl⟩, ⟨Nat.le_of_ble_eq_true rfl, Nat.le_of_ble_eq_true rfl⟩⟩ rfl rfl (Nat.le_of_ble_eq_true rfl) dX8_add_4) (fun r h1 n1 hp => ?_)
  obtain ⟨rfl, hu⟩ := hp
  cases hu
  refine rx_iload_n C dX8_add_7 2 rfl ?_
  refine rx_iadd C dX8_add_8 ?_
  refine rx_cv (rx_rS C (w_put ha hlen) Y_X8_put S_X8_put m_X8_404 ⟨⟨rfl, rfl⟩, ⟨Nat.le_of_ble_eq_true rfl, Nat.le_of_ble_eq_true rfl⟩, ⟨Nat.le_of_ble_eq_true rfl, Nat.le_of_ble_eq_true rfl⟩⟩ rfl rfl (Nat.le_of_ble_eq_true rfl) dX8_add_9) (fun h1 n1 hp => ?_)
  cases hp
  exact rx_vret C dX8_add_12 (Nat.le_refl _) (Nat.le_refl _) rfl
theorem w_copyRow {a b n0 n1 : Nat} {f g : Nat → Int32} (ha : h a = some (rx_ia k n0 f)) (hb : h b = some (rx_ia k n1 g)) (h0 : n0 < 2 ^ 31) (h1 : n1 < 2 ^ 31) : Met l yX8_copyRow (rx_ws yX8_copyRow cX8_copyRow 2 none) (rx_rm 1 40) (va_Pc [.ref a, .ref b] (rx_G G k h n)) (va_Qv (fun u => u = (va_up h b (some (rx_ia k n1 (rx_cp n0 n1 f g))), n)) (rx_B G k) (rx_A k)) 0 0 (rx_A k) := by
  refine rx_start [(0, .ref a), (1, .ref b)] rfl (Nat.le_of_ble_eq_true rfl) (by decide) rfl (fun p e s m args below meth c C hname => ?_)
  refine rx_aload_n C dX8_copyRow_0 0 rfl ?_
  refine rx_iconst C dX8_copyRow_1 0 (by decide) ?_
  refine rx_aload_n C dX8_copyRow_2 1 rfl ?_
  refine rx_iconst C dX8_copyRow_3 0 (by decide) ?_
  refine rx_aload_n C dX8_copyRow_4 0 rfl ?_
  refine rx_alen C 0 rfl dX8_copyRow_5 ha ?_
  refine rx_aload_n C dX8_copyRow_6 1 rfl ?_
  refine rx_alen C 0 rfl dX8_copyRow_7 hb ?_
  refine rx_mmin C m_X8_408 (Nat.le_of_ble_eq_true rfl) (Nat.le_of_ble_eq_true rfl) (Nat.le_refl _) (Nat.le_refl _) dX8_copyRow_8 ?_
  have e : (if nI n1 < nI n0 then nI n1 else nI n0) = nI (min n0 n1) := by
    by_cases hc : n1 < n0
    · rw [if_pos ((nI_ltI h1 h0).mpr hc), Nat.min_eq_right (by omega)]
    · rw [if_neg (fun q => hc ((nI_ltI h1 h0).mp q)), Nat.min_eq_left (by omega)]
  dsimp only at e ⊢
  rw [e]
  refine rx_copy C ac_link ac_nat ac_stat ac_ini ha hb (by omega) (by omega) (by omega) (Nat.le_of_ble_eq_true rfl) (Nat.le_of_ble_eq_true rfl) dX8_copyRow_11 ?_
  exact rx_vret C dX8_copyRow_14 (Nat.le_refl _) (Nat.le_refl _) rfl
end RAT
end
section
theorem rx_fz {v : Int32} (h : v = 0 ∨ v = 1) : fits .boolean (.int v) = true := by rcases h with rfl | rfl <;> rfl
section RXP
variable {p : Program} {l : Launch} {e : Env} {R : Room} {s : State} {m : MethodId} {args : Array Value} {below : List Frame} {meth : Method} {c : Code} {Q : State → Prop} {G : va_G} {k : Nat → Nat} {cc : ByteArray} {own : String} {nL : Nat} {ret : Option FieldType} {cells slots : Nat} {h : hp} {n pc : Nat} {L : List (Nat × Value)} {st : List Value}
theorem rx_pQ2 (C : rx_C G k p m c cc own nL ret s args meth) {index q : Nat} {o o1 : ob} {v : Int32} (hF : rx_F own index 2 2) (hdg : decode cc pc = .ok (.putfield index, 3)) (hb : bQ k q o h) (ho : (upd o.1 2 v, o.2) = o1) (K : ∀ h1, bQ k q o1 h1 → rx_fr [(q, 3)] h h1 → rx_W p l e R s m args below meth c Q G k nL cells slots h1 n (pc + 3) L st) : rx_W p l e R s m args below meth c Q G k nL cells slots h n pc L (.int v :: .ref q :: st) := by
  subst ho
  exact rx_putf C hF t_X3_2 hdg hb.1 (Nat.le_of_ble_eq_true rfl) rfl rfl (K _ hb.put2 (rx_fr1 (Nat.le_refl _) (by omega)))
theorem rx_pQ2N (C : rx_C G k p m c cc own nL ret s args meth) {index q : Nat} {o o1 : ob} {v : Int32} (hF : rx_FN own index 2 2) (hdg : decode cc pc = .ok (.putfield index, 3)) (hb : bQ k q o h) (ho : (upd o.1 2 v, o.2) = o1) (K : ∀ h1, bQ k q o1 h1 → rx_fr [(q, 3)] h h1 → rx_W p l e R s m args below meth c Q G k nL cells slots h1 n (pc + 3) L st) : rx_W p l e R s m args below meth c Q G k nL cells slots h n pc L (.int v :: .ref q :: st) := by
  subst ho
  exact rx_putfN C hF t_X3_2 hdg hb.1 (Nat.le_of_ble_eq_true rfl) rfl rfl (K _ hb.put2 (rx_fr1 (Nat.le_refl _) (by omega)))
theorem bQ.wr0 {k : Nat → Nat} {q n9 n1 : Nat} {o o1 : ob} {h h1 : hp} {f : Nat → Int32} (hb : bQ k q o h) (ho : (o.1, va_up o.2 0 f) = o1) (hu : (h1, n1) = (va_up h (q + 1) (some (rx_ia k 10 f)), n9)) : bQ k q o1 h1 ∧ rx_fr [(q, 3)] h h1 ∧ n1 = n9 := by
  cases hu
  subst ho
  exact ⟨hb.ast0, rx_fr1 (by omega) (by omega), rfl⟩
theorem rx_aQ0 (C : rx_C G k p m c cc own nL ret s args meth) {q : Nat} {o o1 : ob} {f : Nat → Int32} {i v : Int32} (hdg : decode cc pc = .ok (.iastore, 1)) (hb : bQ k q o h) (hx : rx_ast 10 (o.2 0) i v = some f) (ho : (o.1, va_up o.2 0 f) = o1) (K : ∀ h1, bQ k q o1 h1 → rx_fr [(q, 3)] h h1 → rx_W p l e R s m args below meth c Q G k nL cells slots h1 n (pc + 1) L st) : rx_W p l e R s m args below meth c Q G k nL cells slots h n pc L (.int v :: .int i :: .ref (q + 1) :: st) := by
  obtain ⟨hin, rfl⟩ := rx_astE hx
  subst ho
  exact rx_iast C hdg hb.2.1 hin (K _ hb.ast0 (rx_fr1 (by omega) (by omega)))
theorem bQ.wr1 {k : Nat → Nat} {q n9 n1 : Nat} {o o1 : ob} {h h1 : hp} {f : Nat → Int32} (hb : bQ k q o h) (ho : (o.1, va_up o.2 1 f) = o1) (hu : (h1, n1) = (va_up h (q + 2) (some (rx_ia k 10 f)), n9)) : bQ k q o1 h1 ∧ rx_fr [(q, 3)] h h1 ∧ n1 = n9 := by
  cases hu
  subst ho
  exact ⟨hb.ast1, rx_fr1 (by omega) (by omega), rfl⟩
theorem rx_aQ1 (C : rx_C G k p m c cc own nL ret s args meth) {q : Nat} {o o1 : ob} {f : Nat → Int32} {i v : Int32} (hdg : decode cc pc = .ok (.iastore, 1)) (hb : bQ k q o h) (hx : rx_ast 10 (o.2 1) i v = some f) (ho : (o.1, va_up o.2 1 f) = o1) (K : ∀ h1, bQ k q o1 h1 → rx_fr [(q, 3)] h h1 → rx_W p l e R s m args below meth c Q G k nL cells slots h1 n (pc + 1) L st) : rx_W p l e R s m args below meth c Q G k nL cells slots h n pc L (.int v :: .int i :: .ref (q + 2) :: st) := by
  obtain ⟨hin, rfl⟩ := rx_astE hx
  subst ho
  exact rx_iast C hdg hb.2.2 hin (K _ hb.ast1 (rx_fr1 (by omega) (by omega)))
theorem rx_pS0 (C : rx_C G k p m c cc own nL ret s args meth) {index q : Nat} {o o1 : ob} {v : Int32} (hF : rx_F own index 4 0) (hdg : decode cc pc = .ok (.putfield index, 3)) (hb : bS k q o h) (ho : (upd o.1 0 v, o.2) = o1) (K : ∀ h1, bS k q o1 h1 → rx_fr [(q, 9)] h h1 → rx_W p l e R s m args below meth c Q G k nL cells slots h1 n (pc + 3) L st) : rx_W p l e R s m args below meth c Q G k nL cells slots h n pc L (.int v :: .ref q :: st) := by
  subst ho
  exact rx_putf C hF t_X5_0 hdg hb.1 (Nat.le_of_ble_eq_true rfl) rfl rfl (K _ hb.put0 (rx_fr1 (Nat.le_refl _) (by omega)))
theorem rx_pS0N (C : rx_C G k p m c cc own nL ret s args meth) {index q : Nat} {o o1 : ob} {v : Int32} (hF : rx_FN own index 4 0) (hdg : decode cc pc = .ok (.putfield index, 3)) (hb : bS k q o h) (ho : (upd o.1 0 v, o.2) = o1) (K : ∀ h1, bS k q o1 h1 → rx_fr [(q, 9)] h h1 → rx_W p l e R s m args below meth c Q G k nL cells slots h1 n (pc + 3) L st) : rx_W p l e R s m args below meth c Q G k nL cells slots h n pc L (.int v :: .ref q :: st) := by
  subst ho
  exact rx_putfN C hF t_X5_0 hdg hb.1 (Nat.le_of_ble_eq_true rfl) rfl rfl (K _ hb.put0 (rx_fr1 (Nat.le_refl _) (by omega)))
theorem rx_pS1 (C : rx_C G k p m c cc own nL ret s args meth) {index q : Nat} {o o1 : ob} {v : Int32} (hF : rx_F own index 4 1) (hdg : decode cc pc = .ok (.putfield index, 3)) (hb : bS k q o h) (ho : (upd o.1 1 v, o.2) = o1) (K : ∀ h1, bS k q o1 h1 → rx_fr [(q, 9)] h h1 → rx_W p l e R s m args below meth c Q G k nL cells slots h1 n (pc + 3) L st) : rx_W p l e R s m args below meth c Q G k nL cells slots h n pc L (.int v :: .ref q :: st) := by
  subst ho
  exact rx_putf C hF t_X5_1 hdg hb.1 (Nat.le_of_ble_eq_true rfl) rfl rfl (K _ hb.put1 (rx_fr1 (Nat.le_refl _) (by omega)))
theorem rx_pS1N (C : rx_C G k p m c cc own nL ret s args meth) {index q : Nat} {o o1 : ob} {v : Int32} (hF : rx_FN own index 4 1) (hdg : decode cc pc = .ok (.putfield index, 3)) (hb : bS k q o h) (ho : (upd o.1 1 v, o.2) = o1) (K : ∀ h1, bS k q o1 h1 → rx_fr [(q, 9)] h h1 → rx_W p l e R s m args below meth c Q G k nL cells slots h1 n (pc + 3) L st) : rx_W p l e R s m args below meth c Q G k nL cells slots h n pc L (.int v :: .ref q :: st) := by
  subst ho
  exact rx_putfN C hF t_X5_1 hdg hb.1 (Nat.le_of_ble_eq_true rfl) rfl rfl (K _ hb.put1 (rx_fr1 (Nat.le_refl _) (by omega)))
theorem rx_pS2 (C : rx_C G k p m c cc own nL ret s args meth) {index q : Nat} {o o1 : ob} {v : Int32} (hF : rx_F own index 4 2) (hdg : decode cc pc = .ok (.putfield index, 3)) (hb : bS k q o h) (ho : (upd o.1 2 v, o.2) = o1) (K : ∀ h1, bS k q o1 h1 → rx_fr [(q, 9)] h h1 → rx_W p l e R s m args below meth c Q G k nL cells slots h1 n (pc + 3) L st) : rx_W p l e R s m args below meth c Q G k nL cells slots h n pc L (.int v :: .ref q :: st) := by
  subst ho
  exact rx_putf C hF t_X5_2 hdg hb.1 (Nat.le_of_ble_eq_true rfl) rfl rfl (K _ hb.put2 (rx_fr1 (Nat.le_refl _) (by omega)))
theorem rx_pS2N (C : rx_C G k p m c cc own nL ret s args meth) {index q : Nat} {o o1 : ob} {v : Int32} (hF : rx_FN own index 4 2) (hdg : decode cc pc = .ok (.putfield index, 3)) (hb : bS k q o h) (ho : (upd o.1 2 v, o.2) = o1) (K : ∀ h1, bS k q o1 h1 → rx_fr [(q, 9)] h h1 → rx_W p l e R s m args below meth c Q G k nL cells slots h1 n (pc + 3) L st) : rx_W p l e R s m args below meth c Q G k nL cells slots h n pc L (.int v :: .ref q :: st) := by
  subst ho
  exact rx_putfN C hF t_X5_2 hdg hb.1 (Nat.le_of_ble_eq_true rfl) rfl rfl (K _ hb.put2 (rx_fr1 (Nat.le_refl _) (by omega)))
theorem rx_pS3 (C : rx_C G k p m c cc own nL ret s args meth) {index q : Nat} {o o1 : ob} {v : Int32} (hF : rx_F own index 4 3) (hdg : decode cc pc = .ok (.putfield index, 3)) (hb : bS k q o h) (ho : (upd o.1 3 v, o.2) = o1) (K : ∀ h1, bS k q o1 h1 → rx_fr [(q, 9)] h h1 → rx_W p l e R s m args below meth c Q G k nL cells slots h1 n (pc + 3) L st) : rx_W p l e R s m args below meth c Q G k nL cells slots h n pc L (.int v :: .ref q :: st) := by
  subst ho
  exact rx_putf C hF t_X5_3 hdg hb.1 (Nat.le_of_ble_eq_true rfl) rfl rfl (K _ hb.put3 (rx_fr1 (Nat.le_refl _) (by omega)))
theorem rx_pS3N (C : rx_C G k p m c cc own nL ret s args meth) {index q : Nat} {o o1 : ob} {v : Int32} (hF : rx_FN own index 4 3) (hdg : decode cc pc = .ok (.putfield index, 3)) (hb : bS k q o h) (ho : (upd o.1 3 v, o.2) = o1) (K : ∀ h1, bS k q o1 h1 → rx_fr [(q, 9)] h h1 → rx_W p l e R s m args below meth c Q G k nL cells slots h1 n (pc + 3) L st) : rx_W p l e R s m args below meth c Q G k nL cells slots h n pc L (.int v :: .ref q :: st) := by
  subst ho
  exact rx_putfN C hF t_X5_3 hdg hb.1 (Nat.le_of_ble_eq_true rfl) rfl rfl (K _ hb.put3 (rx_fr1 (Nat.le_refl _) (by omega)))
theorem rx_pS4 (C : rx_C G k p m c cc own nL ret s args meth) {index q : Nat} {o o1 : ob} {v : Int32} (hF : rx_F own index 4 4) (hdg : decode cc pc = .ok (.putfield index, 3)) (hb : bS k q o h) (ho : (upd o.1 4 v, o.2) = o1) (K : ∀ h1, bS k q o1 h1 → rx_fr [(q, 9)] h h1 → rx_W p l e R s m args below meth c Q G k nL cells slots h1 n (pc + 3) L st) : rx_W p l e R s m args below meth c Q G k nL cells slots h n pc L (.int v :: .ref q :: st) := by
  subst ho
  exact rx_putf C hF t_X5_4 hdg hb.1 (Nat.le_of_ble_eq_true rfl) rfl rfl (K _ hb.put4 (rx_fr1 (Nat.le_refl _) (by omega)))
theorem rx_pS4N (C : rx_C G k p m c cc own nL ret s args meth) {index q : Nat} {o o1 : ob} {v : Int32} (hF : rx_FN own index 4 4) (hdg : decode cc pc = .ok (.putfield index, 3)) (hb : bS k q o h) (ho : (upd o.1 4 v, o.2) = o1) (K : ∀ h1, bS k q o1 h1 → rx_fr [(q, 9)] h h1 → rx_W p l e R s m args below meth c Q G k nL cells slots h1 n (pc + 3) L st) : rx_W p l e R s m args below meth c Q G k nL cells slots h n pc L (.int v :: .ref q :: st) := by
  subst ho
  exact rx_putfN C hF t_X5_4 hdg hb.1 (Nat.le_of_ble_eq_true rfl) rfl rfl (K _ hb.put4 (rx_fr1 (Nat.le_refl _) (by omega)))
theorem rx_pS5 (C : rx_C G k p m c cc own nL ret s args meth) {index q : Nat} {o o1 : ob} {v : Int32} (hF : rx_F own index 4 5) (hdg : decode cc pc = .ok (.putfield index, 3)) (hb : bS k q o h) (ho : (upd o.1 5 v, o.2) = o1) (K : ∀ h1, bS k q o1 h1 → rx_fr [(q, 9)] h h1 → rx_W p l e R s m args below meth c Q G k nL cells slots h1 n (pc + 3) L st) : rx_W p l e R s m args below meth c Q G k nL cells slots h n pc L (.int v :: .ref q :: st) := by
  subst ho
  exact rx_putf C hF t_X5_5 hdg hb.1 (Nat.le_of_ble_eq_true rfl) rfl rfl (K _ hb.put5 (rx_fr1 (Nat.le_refl _) (by omega)))
theorem rx_pS5N (C : rx_C G k p m c cc own nL ret s args meth) {index q : Nat} {o o1 : ob} {v : Int32} (hF : rx_FN own index 4 5) (hdg : decode cc pc = .ok (.putfield index, 3)) (hb : bS k q o h) (ho : (upd o.1 5 v, o.2) = o1) (K : ∀ h1, bS k q o1 h1 → rx_fr [(q, 9)] h h1 → rx_W p l e R s m args below meth c Q G k nL cells slots h1 n (pc + 3) L st) : rx_W p l e R s m args below meth c Q G k nL cells slots h n pc L (.int v :: .ref q :: st) := by
  subst ho
  exact rx_putfN C hF t_X5_5 hdg hb.1 (Nat.le_of_ble_eq_true rfl) rfl rfl (K _ hb.put5 (rx_fr1 (Nat.le_refl _) (by omega)))
theorem bS.wr6 {k : Nat → Nat} {q n9 n1 : Nat} {o o1 : ob} {h h1 : hp} {f : Nat → Int32} (hb : bS k q o h) (ho : (o.1, va_up o.2 6 f) = o1) (hu : (h1, n1) = (va_up h (q + 1) (some (rx_ia k 10 f)), n9)) : bS k q o1 h1 ∧ rx_fr [(q, 9)] h h1 ∧ n1 = n9 := by
  cases hu
  subst ho
  exact ⟨hb.ast6, rx_fr1 (by omega) (by omega), rfl⟩
theorem rx_aS6 (C : rx_C G k p m c cc own nL ret s args meth) {q : Nat} {o o1 : ob} {f : Nat → Int32} {i v : Int32} (hdg : decode cc pc = .ok (.iastore, 1)) (hb : bS k q o h) (hx : rx_ast 10 (o.2 6) i v = some f) (ho : (o.1, va_up o.2 6 f) = o1) (K : ∀ h1, bS k q o1 h1 → rx_fr [(q, 9)] h h1 → rx_W p l e R s m args below meth c Q G k nL cells slots h1 n (pc + 1) L st) : rx_W p l e R s m args below meth c Q G k nL cells slots h n pc L (.int v :: .int i :: .ref (q + 1) :: st) := by
  obtain ⟨hin, rfl⟩ := rx_astE hx
  subst ho
  exact rx_iast C hdg hb.2.1 hin (K _ hb.ast6 (rx_fr1 (by omega) (by omega)))
theorem bS.wr7 {k : Nat → Nat} {q n9 n1 : Nat} {o o1 : ob} {h h1 : hp} {f : Nat → Int32} (hb : bS k q o h) (ho : (o.1, va_up o.2 7 f) = o1) (hu : (h1, n1) = (va_up h (q + 2) (some (rx_ia k 10 f)), n9)) : bS k q o1 h1 ∧ rx_fr [(q, 9)] h h1 ∧ n1 = n9 := by
  cases hu
  subst ho
  exact ⟨hb.ast7, rx_fr1 (by omega) (by omega), rfl⟩
theorem rx_aS7 (C : rx_C G k p m c cc own nL ret s args meth) {q : Nat} {o o1 : ob} {f : Nat → Int32} {i v : Int32} (hdg : decode cc pc = .ok (.iastore, 1)) (hb : bS k q o h) (hx : rx_ast 10 (o.2 7) i v = some f) (ho : (o.1, va_up o.2 7 f) = o1) (K : ∀ h1, bS k q o1 h1 → rx_fr [(q, 9)] h h1 → rx_W p l e R s m args below meth c Q G k nL cells slots h1 n (pc + 1) L st) : rx_W p l e R s m args below meth c Q G k nL cells slots h n pc L (.int v :: .int i :: .ref (q + 2) :: st) := by
  obtain ⟨hin, rfl⟩ := rx_astE hx
  subst ho
  exact rx_iast C hdg hb.2.2.1 hin (K _ hb.ast7 (rx_fr1 (by omega) (by omega)))
theorem bS.wr8 {k : Nat → Nat} {q n9 n1 : Nat} {o o1 : ob} {h h1 : hp} {f : Nat → Int32} (hb : bS k q o h) (ho : (o.1, va_up o.2 8 f) = o1) (hu : (h1, n1) = (va_up h (q + 3) (some (rx_ia k 10 f)), n9)) : bS k q o1 h1 ∧ rx_fr [(q, 9)] h h1 ∧ n1 = n9 := by
  cases hu
  subst ho
  exact ⟨hb.ast8, rx_fr1 (by omega) (by omega), rfl⟩
theorem rx_aS8 (C : rx_C G k p m c cc own nL ret s args meth) {q : Nat} {o o1 : ob} {f : Nat → Int32} {i v : Int32} (hdg : decode cc pc = .ok (.iastore, 1)) (hb : bS k q o h) (hx : rx_ast 10 (o.2 8) i v = some f) (ho : (o.1, va_up o.2 8 f) = o1) (K : ∀ h1, bS k q o1 h1 → rx_fr [(q, 9)] h h1 → rx_W p l e R s m args below meth c Q G k nL cells slots h1 n (pc + 1) L st) : rx_W p l e R s m args below meth c Q G k nL cells slots h n pc L (.int v :: .int i :: .ref (q + 3) :: st) := by
  obtain ⟨hin, rfl⟩ := rx_astE hx
  subst ho
  exact rx_iast C hdg hb.2.2.2.1 hin (K _ hb.ast8 (rx_fr1 (by omega) (by omega)))
theorem bS.wr9 {k : Nat → Nat} {q n9 n1 : Nat} {o o1 : ob} {h h1 : hp} {f : Nat → Int32} (hb : bS k q o h) (ho : (o.1, va_up o.2 9 f) = o1) (hu : (h1, n1) = (va_up h (q + 4) (some (rx_ia k 10 f)), n9)) : bS k q o1 h1 ∧ rx_fr [(q, 9)] h h1 ∧ n1 = n9 := by
  cases hu
  subst ho
  exact ⟨hb.ast9, rx_fr1 (by omega) (by omega), rfl⟩
theorem rx_aS9 (C : rx_C G k p m c cc own nL ret s args meth) {q : Nat} {o o1 : ob} {f : Nat → Int32} {i v : Int32} (hdg : decode cc pc = .ok (.iastore, 1)) (hb : bS k q o h) (hx : rx_ast 10 (o.2 9) i v = some f) (ho : (o.1, va_up o.2 9 f) = o1) (K : ∀ h1, bS k q o1 h1 → rx_fr [(q, 9)] h h1 → rx_W p l e R s m args below meth c Q G k nL cells slots h1 n (pc + 1) L st) : rx_W p l e R s m args below meth c Q G k nL cells slots h n pc L (.int v :: .int i :: .ref (q + 4) :: st) := by
  obtain ⟨hin, rfl⟩ := rx_astE hx
  subst ho
  exact rx_iast C hdg hb.2.2.2.2.1 hin (K _ hb.ast9 (rx_fr1 (by omega) (by omega)))
theorem bS.wr10 {k : Nat → Nat} {q n9 n1 : Nat} {o o1 : ob} {h h1 : hp} {f : Nat → Int32} (hb : bS k q o h) (ho : (o.1, va_up o.2 10 f) = o1) (hu : (h1, n1) = (va_up h (q + 5) (some (rx_ia k 10 f)), n9)) : bS k q o1 h1 ∧ rx_fr [(q, 9)] h h1 ∧ n1 = n9 := by
  cases hu
  subst ho
  exact ⟨hb.ast10, rx_fr1 (by omega) (by omega), rfl⟩
theorem rx_aS10 (C : rx_C G k p m c cc own nL ret s args meth) {q : Nat} {o o1 : ob} {f : Nat → Int32} {i v : Int32} (hdg : decode cc pc = .ok (.iastore, 1)) (hb : bS k q o h) (hx : rx_ast 10 (o.2 10) i v = some f) (ho : (o.1, va_up o.2 10 f) = o1) (K : ∀ h1, bS k q o1 h1 → rx_fr [(q, 9)] h h1 → rx_W p l e R s m args below meth c Q G k nL cells slots h1 n (pc + 1) L st) : rx_W p l e R s m args below meth c Q G k nL cells slots h n pc L (.int v :: .int i :: .ref (q + 5) :: st) := by
  obtain ⟨hin, rfl⟩ := rx_astE hx
  subst ho
  exact rx_iast C hdg hb.2.2.2.2.2.1 hin (K _ hb.ast10 (rx_fr1 (by omega) (by omega)))
theorem bS.wr11 {k : Nat → Nat} {q n9 n1 : Nat} {o o1 : ob} {h h1 : hp} {f : Nat → Int32} (hb : bS k q o h) (ho : (o.1, va_up o.2 11 f) = o1) (hu : (h1, n1) = (va_up h (q + 6) (some (rx_ia k 4 f)), n9)) : bS k q o1 h1 ∧ rx_fr [(q, 9)] h h1 ∧ n1 = n9 := by
  cases hu
  subst ho
  exact ⟨hb.ast11, rx_fr1 (by omega) (by omega), rfl⟩
theorem rx_aS11 (C : rx_C G k p m c cc own nL ret s args meth) {q : Nat} {o o1 : ob} {f : Nat → Int32} {i v : Int32} (hdg : decode cc pc = .ok (.iastore, 1)) (hb : bS k q o h) (hx : rx_ast 4 (o.2 11) i v = some f) (ho : (o.1, va_up o.2 11 f) = o1) (K : ∀ h1, bS k q o1 h1 → rx_fr [(q, 9)] h h1 → rx_W p l e R s m args below meth c Q G k nL cells slots h1 n (pc + 1) L st) : rx_W p l e R s m args below meth c Q G k nL cells slots h n pc L (.int v :: .int i :: .ref (q + 6) :: st) := by
  obtain ⟨hin, rfl⟩ := rx_astE hx
  subst ho
  exact rx_iast C hdg hb.2.2.2.2.2.2.1 hin (K _ hb.ast11 (rx_fr1 (by omega) (by omega)))
theorem bS.wr12 {k : Nat → Nat} {q n9 n1 : Nat} {o o1 : ob} {h h1 : hp} {f : Nat → Int32} (hb : bS k q o h) (ho : (o.1, va_up o.2 12 f) = o1) (hu : (h1, n1) = (va_up h (q + 7) (some (rx_ia k 4 f)), n9)) : bS k q o1 h1 ∧ rx_fr [(q, 9)] h h1 ∧ n1 = n9 := by
  cases hu
  subst ho
  exact ⟨hb.ast12, rx_fr1 (by omega) (by omega), rfl⟩
theorem rx_aS12 (C : rx_C G k p m c cc own nL ret s args meth) {q : Nat} {o o1 : ob} {f : Nat → Int32} {i v : Int32} (hdg : decode cc pc = .ok (.iastore, 1)) (hb : bS k q o h) (hx : rx_ast 4 (o.2 12) i v = some f) (ho : (o.1, va_up o.2 12 f) = o1) (K : ∀ h1, bS k q o1 h1 → rx_fr [(q, 9)] h h1 → rx_W p l e R s m args below meth c Q G k nL cells slots h1 n (pc + 1) L st) : rx_W p l e R s m args below meth c Q G k nL cells slots h n pc L (.int v :: .int i :: .ref (q + 7) :: st) := by
  obtain ⟨hin, rfl⟩ := rx_astE hx
  subst ho
  exact rx_iast C hdg hb.2.2.2.2.2.2.2.1 hin (K _ hb.ast12 (rx_fr1 (by omega) (by omega)))
theorem bS.wr13 {k : Nat → Nat} {q n9 n1 : Nat} {o o1 : ob} {h h1 : hp} {f : Nat → Int32} (hb : bS k q o h) (ho : (o.1, va_up o.2 13 f) = o1) (hu : (h1, n1) = (va_up h (q + 8) (some (rx_ia k 4 f)), n9)) : bS k q o1 h1 ∧ rx_fr [(q, 9)] h h1 ∧ n1 = n9 := by
  cases hu
  subst ho
  exact ⟨hb.ast13, rx_fr1 (by omega) (by omega), rfl⟩
theorem rx_aS13 (C : rx_C G k p m c cc own nL ret s args meth) {q : Nat} {o o1 : ob} {f : Nat → Int32} {i v : Int32} (hdg : decode cc pc = .ok (.iastore, 1)) (hb : bS k q o h) (hx : rx_ast 4 (o.2 13) i v = some f) (ho : (o.1, va_up o.2 13 f) = o1) (K : ∀ h1, bS k q o1 h1 → rx_fr [(q, 9)] h h1 → rx_W p l e R s m args below meth c Q G k nL cells slots h1 n (pc + 1) L st) : rx_W p l e R s m args below meth c Q G k nL cells slots h n pc L (.int v :: .int i :: .ref (q + 8) :: st) := by
  obtain ⟨hin, rfl⟩ := rx_astE hx
  subst ho
  exact rx_iast C hdg hb.2.2.2.2.2.2.2.2 hin (K _ hb.ast13 (rx_fr1 (by omega) (by omega)))
theorem rx_pT1 (C : rx_C G k p m c cc own nL ret s args meth) {index q : Nat} {o o1 : ob} {v : Int32} (hF : rx_F own index 5 1) (hdg : decode cc pc = .ok (.putfield index, 3)) (hb : bT k q o h) (ho : (upd o.1 1 v, o.2) = o1) (K : ∀ h1, bT k q o1 h1 → rx_fr [(q, 2)] h h1 → rx_W p l e R s m args below meth c Q G k nL cells slots h1 n (pc + 3) L st) : rx_W p l e R s m args below meth c Q G k nL cells slots h n pc L (.int v :: .ref q :: st) := by
  subst ho
  exact rx_putf C hF t_X6_1 hdg hb.1 (Nat.le_of_ble_eq_true rfl) rfl rfl (K _ hb.put1 (rx_fr1 (Nat.le_refl _) (by omega)))
theorem rx_pT1N (C : rx_C G k p m c cc own nL ret s args meth) {index q : Nat} {o o1 : ob} {v : Int32} (hF : rx_FN own index 5 1) (hdg : decode cc pc = .ok (.putfield index, 3)) (hb : bT k q o h) (ho : (upd o.1 1 v, o.2) = o1) (K : ∀ h1, bT k q o1 h1 → rx_fr [(q, 2)] h h1 → rx_W p l e R s m args below meth c Q G k nL cells slots h1 n (pc + 3) L st) : rx_W p l e R s m args below meth c Q G k nL cells slots h n pc L (.int v :: .ref q :: st) := by
  subst ho
  exact rx_putfN C hF t_X6_1 hdg hb.1 (Nat.le_of_ble_eq_true rfl) rfl rfl (K _ hb.put1 (rx_fr1 (Nat.le_refl _) (by omega)))
theorem rx_pT2 (C : rx_C G k p m c cc own nL ret s args meth) {index q : Nat} {o o1 : ob} {v : Int32} (hF : rx_F own index 5 2) (hdg : decode cc pc = .ok (.putfield index, 3)) (hb : bT k q o h) (ho : (upd o.1 2 v, o.2) = o1) (K : ∀ h1, bT k q o1 h1 → rx_fr [(q, 2)] h h1 → rx_W p l e R s m args below meth c Q G k nL cells slots h1 n (pc + 3) L st) : rx_W p l e R s m args below meth c Q G k nL cells slots h n pc L (.int v :: .ref q :: st) := by
  subst ho
  exact rx_putf C hF t_X6_2 hdg hb.1 (Nat.le_of_ble_eq_true rfl) rfl rfl (K _ hb.put2 (rx_fr1 (Nat.le_refl _) (by omega)))
theorem rx_pT2N (C : rx_C G k p m c cc own nL ret s args meth) {index q : Nat} {o o1 : ob} {v : Int32} (hF : rx_FN own index 5 2) (hdg : decode cc pc = .ok (.putfield index, 3)) (hb : bT k q o h) (ho : (upd o.1 2 v, o.2) = o1) (K : ∀ h1, bT k q o1 h1 → rx_fr [(q, 2)] h h1 → rx_W p l e R s m args below meth c Q G k nL cells slots h1 n (pc + 3) L st) : rx_W p l e R s m args below meth c Q G k nL cells slots h n pc L (.int v :: .ref q :: st) := by
  subst ho
  exact rx_putfN C hF t_X6_2 hdg hb.1 (Nat.le_of_ble_eq_true rfl) rfl rfl (K _ hb.put2 (rx_fr1 (Nat.le_refl _) (by omega)))
theorem rx_pT3 (C : rx_C G k p m c cc own nL ret s args meth) {index q : Nat} {o o1 : ob} {v : Int32} (hF : rx_F own index 5 3) (hdg : decode cc pc = .ok (.putfield index, 3)) (hb : bT k q o h) (ho : (upd o.1 3 v, o.2) = o1) (K : ∀ h1, bT k q o1 h1 → rx_fr [(q, 2)] h h1 → rx_W p l e R s m args below meth c Q G k nL cells slots h1 n (pc + 3) L st) : rx_W p l e R s m args below meth c Q G k nL cells slots h n pc L (.int v :: .ref q :: st) := by
  subst ho
  exact rx_putf C hF t_X6_3 hdg hb.1 (Nat.le_of_ble_eq_true rfl) rfl rfl (K _ hb.put3 (rx_fr1 (Nat.le_refl _) (by omega)))
theorem rx_pT3N (C : rx_C G k p m c cc own nL ret s args meth) {index q : Nat} {o o1 : ob} {v : Int32} (hF : rx_FN own index 5 3) (hdg : decode cc pc = .ok (.putfield index, 3)) (hb : bT k q o h) (ho : (upd o.1 3 v, o.2) = o1) (K : ∀ h1, bT k q o1 h1 → rx_fr [(q, 2)] h h1 → rx_W p l e R s m args below meth c Q G k nL cells slots h1 n (pc + 3) L st) : rx_W p l e R s m args below meth c Q G k nL cells slots h n pc L (.int v :: .ref q :: st) := by
  subst ho
  exact rx_putfN C hF t_X6_3 hdg hb.1 (Nat.le_of_ble_eq_true rfl) rfl rfl (K _ hb.put3 (rx_fr1 (Nat.le_refl _) (by omega)))
theorem rx_pT4 (C : rx_C G k p m c cc own nL ret s args meth) {index q : Nat} {o o1 : ob} {v : Int32} (hF : rx_F own index 5 4) (hdg : decode cc pc = .ok (.putfield index, 3)) (hb : bT k q o h) (ho : (upd o.1 4 v, o.2) = o1) (K : ∀ h1, bT k q o1 h1 → rx_fr [(q, 2)] h h1 → rx_W p l e R s m args below meth c Q G k nL cells slots h1 n (pc + 3) L st) : rx_W p l e R s m args below meth c Q G k nL cells slots h n pc L (.int v :: .ref q :: st) := by
  subst ho
  exact rx_putf C hF t_X6_4 hdg hb.1 (Nat.le_of_ble_eq_true rfl) rfl rfl (K _ hb.put4 (rx_fr1 (Nat.le_refl _) (by omega)))
theorem rx_pT4N (C : rx_C G k p m c cc own nL ret s args meth) {index q : Nat} {o o1 : ob} {v : Int32} (hF : rx_FN own index 5 4) (hdg : decode cc pc = .ok (.putfield index, 3)) (hb : bT k q o h) (ho : (upd o.1 4 v, o.2) = o1) (K : ∀ h1, bT k q o1 h1 → rx_fr [(q, 2)] h h1 → rx_W p l e R s m args below meth c Q G k nL cells slots h1 n (pc + 3) L st) : rx_W p l e R s m args below meth c Q G k nL cells slots h n pc L (.int v :: .ref q :: st) := by
  subst ho
  exact rx_putfN C hF t_X6_4 hdg hb.1 (Nat.le_of_ble_eq_true rfl) rfl rfl (K _ hb.put4 (rx_fr1 (Nat.le_refl _) (by omega)))
theorem rx_pT5 (C : rx_C G k p m c cc own nL ret s args meth) {index q : Nat} {o o1 : ob} {v : Int32} (hF : rx_F own index 5 5) (hdg : decode cc pc = .ok (.putfield index, 3)) (hb : bT k q o h) (ho : (upd o.1 5 v, o.2) = o1) (K : ∀ h1, bT k q o1 h1 → rx_fr [(q, 2)] h h1 → rx_W p l e R s m args below meth c Q G k nL cells slots h1 n (pc + 3) L st) : rx_W p l e R s m args below meth c Q G k nL cells slots h n pc L (.int v :: .ref q :: st) := by
  subst ho
  exact rx_putf C hF t_X6_5 hdg hb.1 (Nat.le_of_ble_eq_true rfl) rfl rfl (K _ hb.put5 (rx_fr1 (Nat.le_refl _) (by omega)))
theorem rx_pT5N (C : rx_C G k p m c cc own nL ret s args meth) {index q : Nat} {o o1 : ob} {v : Int32} (hF : rx_FN own index 5 5) (hdg : decode cc pc = .ok (.putfield index, 3)) (hb : bT k q o h) (ho : (upd o.1 5 v, o.2) = o1) (K : ∀ h1, bT k q o1 h1 → rx_fr [(q, 2)] h h1 → rx_W p l e R s m args below meth c Q G k nL cells slots h1 n (pc + 3) L st) : rx_W p l e R s m args below meth c Q G k nL cells slots h n pc L (.int v :: .ref q :: st) := by
  subst ho
  exact rx_putfN C hF t_X6_5 hdg hb.1 (Nat.le_of_ble_eq_true rfl) rfl rfl (K _ hb.put5 (rx_fr1 (Nat.le_refl _) (by omega)))
theorem rx_pT6 (C : rx_C G k p m c cc own nL ret s args meth) {index q : Nat} {o o1 : ob} {v : Int32} (hF : rx_F own index 5 6) (hdg : decode cc pc = .ok (.putfield index, 3)) (hb : bT k q o h) (ho : (upd o.1 6 v, o.2) = o1) (K : ∀ h1, bT k q o1 h1 → rx_fr [(q, 2)] h h1 → rx_W p l e R s m args below meth c Q G k nL cells slots h1 n (pc + 3) L st) : rx_W p l e R s m args below meth c Q G k nL cells slots h n pc L (.int v :: .ref q :: st) := by
  subst ho
  exact rx_putf C hF t_X6_6 hdg hb.1 (Nat.le_of_ble_eq_true rfl) rfl rfl (K _ hb.put6 (rx_fr1 (Nat.le_refl _) (by omega)))
theorem rx_pT6N (C : rx_C G k p m c cc own nL ret s args meth) {index q : Nat} {o o1 : ob} {v : Int32} (hF : rx_FN own index 5 6) (hdg : decode cc pc = .ok (.putfield index, 3)) (hb : bT k q o h) (ho : (upd o.1 6 v, o.2) = o1) (K : ∀ h1, bT k q o1 h1 → rx_fr [(q, 2)] h h1 → rx_W p l e R s m args below meth c Q G k nL cells slots h1 n (pc + 3) L st) : rx_W p l e R s m args below meth c Q G k nL cells slots h n pc L (.int v :: .ref q :: st) := by
  subst ho
  exact rx_putfN C hF t_X6_6 hdg hb.1 (Nat.le_of_ble_eq_true rfl) rfl rfl (K _ hb.put6 (rx_fr1 (Nat.le_refl _) (by omega)))
theorem rx_pT7 (C : rx_C G k p m c cc own nL ret s args meth) {index q : Nat} {o o1 : ob} {v : Int32} (hF : rx_F own index 5 7) (hdg : decode cc pc = .ok (.putfield index, 3)) (hb : bT k q o h) (ho : (upd o.1 7 v, o.2) = o1) (K : ∀ h1, bT k q o1 h1 → rx_fr [(q, 2)] h h1 → rx_W p l e R s m args below meth c Q G k nL cells slots h1 n (pc + 3) L st) : rx_W p l e R s m args below meth c Q G k nL cells slots h n pc L (.int v :: .ref q :: st) := by
  subst ho
  exact rx_putf C hF t_X6_7 hdg hb.1 (Nat.le_of_ble_eq_true rfl) rfl rfl (K _ hb.put7 (rx_fr1 (Nat.le_refl _) (by omega)))
theorem rx_pT7N (C : rx_C G k p m c cc own nL ret s args meth) {index q : Nat} {o o1 : ob} {v : Int32} (hF : rx_FN own index 5 7) (hdg : decode cc pc = .ok (.putfield index, 3)) (hb : bT k q o h) (ho : (upd o.1 7 v, o.2) = o1) (K : ∀ h1, bT k q o1 h1 → rx_fr [(q, 2)] h h1 → rx_W p l e R s m args below meth c Q G k nL cells slots h1 n (pc + 3) L st) : rx_W p l e R s m args below meth c Q G k nL cells slots h n pc L (.int v :: .ref q :: st) := by
  subst ho
  exact rx_putfN C hF t_X6_7 hdg hb.1 (Nat.le_of_ble_eq_true rfl) rfl rfl (K _ hb.put7 (rx_fr1 (Nat.le_refl _) (by omega)))
theorem rx_pT8 (C : rx_C G k p m c cc own nL ret s args meth) {index q : Nat} {o o1 : ob} {v : Int32} (hF : rx_F own index 5 8) (hdg : decode cc pc = .ok (.putfield index, 3)) (hb : bT k q o h) (ho : (upd o.1 8 v, o.2) = o1) (K : ∀ h1, bT k q o1 h1 → rx_fr [(q, 2)] h h1 → rx_W p l e R s m args below meth c Q G k nL cells slots h1 n (pc + 3) L st) : rx_W p l e R s m args below meth c Q G k nL cells slots h n pc L (.int v :: .ref q :: st) := by
  subst ho
  exact rx_putf C hF t_X6_8 hdg hb.1 (Nat.le_of_ble_eq_true rfl) rfl rfl (K _ hb.put8 (rx_fr1 (Nat.le_refl _) (by omega)))
theorem rx_pT8N (C : rx_C G k p m c cc own nL ret s args meth) {index q : Nat} {o o1 : ob} {v : Int32} (hF : rx_FN own index 5 8) (hdg : decode cc pc = .ok (.putfield index, 3)) (hb : bT k q o h) (ho : (upd o.1 8 v, o.2) = o1) (K : ∀ h1, bT k q o1 h1 → rx_fr [(q, 2)] h h1 → rx_W p l e R s m args below meth c Q G k nL cells slots h1 n (pc + 3) L st) : rx_W p l e R s m args below meth c Q G k nL cells slots h n pc L (.int v :: .ref q :: st) := by
  subst ho
  exact rx_putfN C hF t_X6_8 hdg hb.1 (Nat.le_of_ble_eq_true rfl) rfl rfl (K _ hb.put8 (rx_fr1 (Nat.le_refl _) (by omega)))
theorem bT.wr0 {k : Nat → Nat} {q n9 n1 : Nat} {o o1 : ob} {h h1 : hp} {f : Nat → Int32} (hb : bT k q o h) (ho : (o.1, va_up o.2 0 f) = o1) (hu : (h1, n1) = (va_up h (q + 1) (some (rx_ia k 500 f)), n9)) : bT k q o1 h1 ∧ rx_fr [(q, 2)] h h1 ∧ n1 = n9 := by
  cases hu
  subst ho
  exact ⟨hb.ast0, rx_fr1 (by omega) (by omega), rfl⟩
theorem rx_aT0 (C : rx_C G k p m c cc own nL ret s args meth) {q : Nat} {o o1 : ob} {f : Nat → Int32} {i v : Int32} (hdg : decode cc pc = .ok (.iastore, 1)) (hb : bT k q o h) (hx : rx_ast 500 (o.2 0) i v = some f) (ho : (o.1, va_up o.2 0 f) = o1) (K : ∀ h1, bT k q o1 h1 → rx_fr [(q, 2)] h h1 → rx_W p l e R s m args below meth c Q G k nL cells slots h1 n (pc + 1) L st) : rx_W p l e R s m args below meth c Q G k nL cells slots h n pc L (.int v :: .int i :: .ref (q + 1) :: st) := by
  obtain ⟨hin, rfl⟩ := rx_astE hx
  subst ho
  exact rx_iast C hdg hb.2 hin (K _ hb.ast0 (rx_fr1 (by omega) (by omega)))
theorem rx_pP1 (C : rx_C G k p m c cc own nL ret s args meth) {index q g : Nat} {o o1 : ob} {v : Int32} (hF : rx_F own index 1 1) (hdg : decode cc pc = .ok (.putfield index, 3)) (hb : bP k q g o h) (ho : (upd o.1 1 v, o.2) = o1) (K : ∀ h1, bP k q g o1 h1 → rx_fr [(q, 10)] h h1 → rx_W p l e R s m args below meth c Q G k nL cells slots h1 n (pc + 3) L st) : rx_W p l e R s m args below meth c Q G k nL cells slots h n pc L (.int v :: .ref q :: st) := by
  subst ho
  exact rx_putf C hF t_X2_1 hdg hb.1 (Nat.le_of_ble_eq_true rfl) rfl rfl (K _ hb.put1 (rx_fr1 (Nat.le_refl _) (by omega)))
theorem rx_pP1N (C : rx_C G k p m c cc own nL ret s args meth) {index q g : Nat} {o o1 : ob} {v : Int32} (hF : rx_FN own index 1 1) (hdg : decode cc pc = .ok (.putfield index, 3)) (hb : bP k q g o h) (ho : (upd o.1 1 v, o.2) = o1) (K : ∀ h1, bP k q g o1 h1 → rx_fr [(q, 10)] h h1 → rx_W p l e R s m args below meth c Q G k nL cells slots h1 n (pc + 3) L st) : rx_W p l e R s m args below meth c Q G k nL cells slots h n pc L (.int v :: .ref q :: st) := by
  subst ho
  exact rx_putfN C hF t_X2_1 hdg hb.1 (Nat.le_of_ble_eq_true rfl) rfl rfl (K _ hb.put1 (rx_fr1 (Nat.le_refl _) (by omega)))
theorem rx_pP2 (C : rx_C G k p m c cc own nL ret s args meth) {index q g : Nat} {o o1 : ob} {v : Int32} (hF : rx_F own index 1 2) (hdg : decode cc pc = .ok (.putfield index, 3)) (hb : bP k q g o h) (ho : (upd o.1 2 v, o.2) = o1) (K : ∀ h1, bP k q g o1 h1 → rx_fr [(q, 10)] h h1 → rx_W p l e R s m args below meth c Q G k nL cells slots h1 n (pc + 3) L st) : rx_W p l e R s m args below meth c Q G k nL cells slots h n pc L (.int v :: .ref q :: st) := by
  subst ho
  exact rx_putf C hF t_X2_2 hdg hb.1 (Nat.le_of_ble_eq_true rfl) rfl rfl (K _ hb.put2 (rx_fr1 (Nat.le_refl _) (by omega)))
theorem rx_pP2N (C : rx_C G k p m c cc own nL ret s args meth) {index q g : Nat} {o o1 : ob} {v : Int32} (hF : rx_FN own index 1 2) (hdg : decode cc pc = .ok (.putfield index, 3)) (hb : bP k q g o h) (ho : (upd o.1 2 v, o.2) = o1) (K : ∀ h1, bP k q g o1 h1 → rx_fr [(q, 10)] h h1 → rx_W p l e R s m args below meth c Q G k nL cells slots h1 n (pc + 3) L st) : rx_W p l e R s m args below meth c Q G k nL cells slots h n pc L (.int v :: .ref q :: st) := by
  subst ho
  exact rx_putfN C hF t_X2_2 hdg hb.1 (Nat.le_of_ble_eq_true rfl) rfl rfl (K _ hb.put2 (rx_fr1 (Nat.le_refl _) (by omega)))
theorem rx_pP3 (C : rx_C G k p m c cc own nL ret s args meth) {index q g : Nat} {o o1 : ob} {v : Int32} (hF : rx_F own index 1 3) (hdg : decode cc pc = .ok (.putfield index, 3)) (hb : bP k q g o h) (ho : (upd o.1 3 v, o.2) = o1) (K : ∀ h1, bP k q g o1 h1 → rx_fr [(q, 10)] h h1 → rx_W p l e R s m args below meth c Q G k nL cells slots h1 n (pc + 3) L st) : rx_W p l e R s m args below meth c Q G k nL cells slots h n pc L (.int v :: .ref q :: st) := by
  subst ho
  exact rx_putf C hF t_X2_3 hdg hb.1 (Nat.le_of_ble_eq_true rfl) rfl rfl (K _ hb.put3 (rx_fr1 (Nat.le_refl _) (by omega)))
theorem rx_pP3N (C : rx_C G k p m c cc own nL ret s args meth) {index q g : Nat} {o o1 : ob} {v : Int32} (hF : rx_FN own index 1 3) (hdg : decode cc pc = .ok (.putfield index, 3)) (hb : bP k q g o h) (ho : (upd o.1 3 v, o.2) = o1) (K : ∀ h1, bP k q g o1 h1 → rx_fr [(q, 10)] h h1 → rx_W p l e R s m args below meth c Q G k nL cells slots h1 n (pc + 3) L st) : rx_W p l e R s m args below meth c Q G k nL cells slots h n pc L (.int v :: .ref q :: st) := by
  subst ho
  exact rx_putfN C hF t_X2_3 hdg hb.1 (Nat.le_of_ble_eq_true rfl) rfl rfl (K _ hb.put3 (rx_fr1 (Nat.le_refl _) (by omega)))
theorem bP.wr4 {k : Nat → Nat} {q g n9 n1 : Nat} {o o1 : ob} {h h1 : hp} {f : Nat → Int32} (hb : bP k q g o h) (ho : (o.1, va_up o.2 4 f) = o1) (hu : (h1, n1) = (va_up h (q + 1) (some (rx_ia k 2 f)), n9)) : bP k q g o1 h1 ∧ rx_fr [(q, 10)] h h1 ∧ n1 = n9 := by
  cases hu
  subst ho
  exact ⟨hb.ast4, rx_fr1 (by omega) (by omega), rfl⟩
theorem rx_aP4 (C : rx_C G k p m c cc own nL ret s args meth) {q g : Nat} {o o1 : ob} {f : Nat → Int32} {i v : Int32} (hdg : decode cc pc = .ok (.iastore, 1)) (hb : bP k q g o h) (hx : rx_ast 2 (o.2 4) i v = some f) (ho : (o.1, va_up o.2 4 f) = o1) (K : ∀ h1, bP k q g o1 h1 → rx_fr [(q, 10)] h h1 → rx_W p l e R s m args below meth c Q G k nL cells slots h1 n (pc + 1) L st) : rx_W p l e R s m args below meth c Q G k nL cells slots h n pc L (.int v :: .int i :: .ref (q + 1) :: st) := by
  obtain ⟨hin, rfl⟩ := rx_astE hx
  subst ho
  exact rx_iast C hdg hb.2.1 hin (K _ hb.ast4 (rx_fr1 (by omega) (by omega)))
theorem bP.wr5 {k : Nat → Nat} {q g n9 n1 : Nat} {o o1 : ob} {h h1 : hp} {f : Nat → Int32} (hb : bP k q g o h) (ho : (o.1, va_up o.2 5 f) = o1) (hu : (h1, n1) = (va_up h (q + 2) (some (rx_ia k 10 f)), n9)) : bP k q g o1 h1 ∧ rx_fr [(q, 10)] h h1 ∧ n1 = n9 := by
  cases hu
  subst ho
  exact ⟨hb.ast5, rx_fr1 (by omega) (by omega), rfl⟩
theorem rx_aP5 (C : rx_C G k p m c cc own nL ret s args meth) {q g : Nat} {o o1 : ob} {f : Nat → Int32} {i v : Int32} (hdg : decode cc pc = .ok (.iastore, 1)) (hb : bP k q g o h) (hx : rx_ast 10 (o.2 5) i v = some f) (ho : (o.1, va_up o.2 5 f) = o1) (K : ∀ h1, bP k q g o1 h1 → rx_fr [(q, 10)] h h1 → rx_W p l e R s m args below meth c Q G k nL cells slots h1 n (pc + 1) L st) : rx_W p l e R s m args below meth c Q G k nL cells slots h n pc L (.int v :: .int i :: .ref (q + 2) :: st) := by
  obtain ⟨hin, rfl⟩ := rx_astE hx
  subst ho
  exact rx_iast C hdg hb.2.2.1 hin (K _ hb.ast5 (rx_fr1 (by omega) (by omega)))
theorem bP.wr6 {k : Nat → Nat} {q g n9 n1 : Nat} {o o1 : ob} {h h1 : hp} {f : Nat → Int32} (hb : bP k q g o h) (ho : (o.1, va_up o.2 6 f) = o1) (hu : (h1, n1) = (va_up h (q + 3) (some (rx_ia k 10 f)), n9)) : bP k q g o1 h1 ∧ rx_fr [(q, 10)] h h1 ∧ n1 = n9 := by
  cases hu
  subst ho
  exact ⟨hb.ast6, rx_fr1 (by omega) (by omega), rfl⟩
theorem rx_aP6 (C : rx_C G k p m c cc own nL ret s args meth) {q g : Nat} {o o1 : ob} {f : Nat → Int32} {i v : Int32} (hdg : decode cc pc = .ok (.iastore, 1)) (hb : bP k q g o h) (hx : rx_ast 10 (o.2 6) i v = some f) (ho : (o.1, va_up o.2 6 f) = o1) (K : ∀ h1, bP k q g o1 h1 → rx_fr [(q, 10)] h h1 → rx_W p l e R s m args below meth c Q G k nL cells slots h1 n (pc + 1) L st) : rx_W p l e R s m args below meth c Q G k nL cells slots h n pc L (.int v :: .int i :: .ref (q + 3) :: st) := by
  obtain ⟨hin, rfl⟩ := rx_astE hx
  subst ho
  exact rx_iast C hdg hb.2.2.2.1 hin (K _ hb.ast6 (rx_fr1 (by omega) (by omega)))
theorem bP.wr7 {k : Nat → Nat} {q g n9 n1 : Nat} {o o1 : ob} {h h1 : hp} {f : Nat → Int32} (hb : bP k q g o h) (ho : (o.1, va_up o.2 7 f) = o1) (hu : (h1, n1) = (va_up h (q + 4) (some (rx_ia k 10 f)), n9)) : bP k q g o1 h1 ∧ rx_fr [(q, 10)] h h1 ∧ n1 = n9 := by
  cases hu
  subst ho
  exact ⟨hb.ast7, rx_fr1 (by omega) (by omega), rfl⟩
theorem rx_aP7 (C : rx_C G k p m c cc own nL ret s args meth) {q g : Nat} {o o1 : ob} {f : Nat → Int32} {i v : Int32} (hdg : decode cc pc = .ok (.iastore, 1)) (hb : bP k q g o h) (hx : rx_ast 10 (o.2 7) i v = some f) (ho : (o.1, va_up o.2 7 f) = o1) (K : ∀ h1, bP k q g o1 h1 → rx_fr [(q, 10)] h h1 → rx_W p l e R s m args below meth c Q G k nL cells slots h1 n (pc + 1) L st) : rx_W p l e R s m args below meth c Q G k nL cells slots h n pc L (.int v :: .int i :: .ref (q + 4) :: st) := by
  obtain ⟨hin, rfl⟩ := rx_astE hx
  subst ho
  exact rx_iast C hdg hb.2.2.2.2.1 hin (K _ hb.ast7 (rx_fr1 (by omega) (by omega)))
theorem bP.wr8 {k : Nat → Nat} {q g n9 n1 : Nat} {o o1 : ob} {h h1 : hp} {f : Nat → Int32} (hb : bP k q g o h) (ho : (o.1, va_up o.2 8 f) = o1) (hu : (h1, n1) = (va_up h (q + 5) (some (rx_ia k 10 f)), n9)) : bP k q g o1 h1 ∧ rx_fr [(q, 10)] h h1 ∧ n1 = n9 := by
  cases hu
  subst ho
  exact ⟨hb.ast8, rx_fr1 (by omega) (by omega), rfl⟩
theorem rx_aP8 (C : rx_C G k p m c cc own nL ret s args meth) {q g : Nat} {o o1 : ob} {f : Nat → Int32} {i v : Int32} (hdg : decode cc pc = .ok (.iastore, 1)) (hb : bP k q g o h) (hx : rx_ast 10 (o.2 8) i v = some f) (ho : (o.1, va_up o.2 8 f) = o1) (K : ∀ h1, bP k q g o1 h1 → rx_fr [(q, 10)] h h1 → rx_W p l e R s m args below meth c Q G k nL cells slots h1 n (pc + 1) L st) : rx_W p l e R s m args below meth c Q G k nL cells slots h n pc L (.int v :: .int i :: .ref (q + 5) :: st) := by
  obtain ⟨hin, rfl⟩ := rx_astE hx
  subst ho
  exact rx_iast C hdg hb.2.2.2.2.2.1 hin (K _ hb.ast8 (rx_fr1 (by omega) (by omega)))
theorem bP.wr9 {k : Nat → Nat} {q g n9 n1 : Nat} {o o1 : ob} {h h1 : hp} {f : Nat → Int32} (hb : bP k q g o h) (ho : (o.1, va_up o.2 9 f) = o1) (hu : (h1, n1) = (va_up h (q + 6) (some (rx_ia k 10 f)), n9)) : bP k q g o1 h1 ∧ rx_fr [(q, 10)] h h1 ∧ n1 = n9 := by
  cases hu
  subst ho
  exact ⟨hb.ast9, rx_fr1 (by omega) (by omega), rfl⟩
theorem rx_aP9 (C : rx_C G k p m c cc own nL ret s args meth) {q g : Nat} {o o1 : ob} {f : Nat → Int32} {i v : Int32} (hdg : decode cc pc = .ok (.iastore, 1)) (hb : bP k q g o h) (hx : rx_ast 10 (o.2 9) i v = some f) (ho : (o.1, va_up o.2 9 f) = o1) (K : ∀ h1, bP k q g o1 h1 → rx_fr [(q, 10)] h h1 → rx_W p l e R s m args below meth c Q G k nL cells slots h1 n (pc + 1) L st) : rx_W p l e R s m args below meth c Q G k nL cells slots h n pc L (.int v :: .int i :: .ref (q + 6) :: st) := by
  obtain ⟨hin, rfl⟩ := rx_astE hx
  subst ho
  exact rx_iast C hdg hb.2.2.2.2.2.2.1 hin (K _ hb.ast9 (rx_fr1 (by omega) (by omega)))
theorem bP.wr10 {k : Nat → Nat} {q g n9 n1 : Nat} {o o1 : ob} {h h1 : hp} {f : Nat → Int32} (hb : bP k q g o h) (ho : (o.1, va_up o.2 10 f) = o1) (hu : (h1, n1) = (va_up h (q + 7) (some (rx_ia k 10 f)), n9)) : bP k q g o1 h1 ∧ rx_fr [(q, 10)] h h1 ∧ n1 = n9 := by
  cases hu
  subst ho
  exact ⟨hb.ast10, rx_fr1 (by omega) (by omega), rfl⟩
theorem rx_aP10 (C : rx_C G k p m c cc own nL ret s args meth) {q g : Nat} {o o1 : ob} {f : Nat → Int32} {i v : Int32} (hdg : decode cc pc = .ok (.iastore, 1)) (hb : bP k q g o h) (hx : rx_ast 10 (o.2 10) i v = some f) (ho : (o.1, va_up o.2 10 f) = o1) (K : ∀ h1, bP k q g o1 h1 → rx_fr [(q, 10)] h h1 → rx_W p l e R s m args below meth c Q G k nL cells slots h1 n (pc + 1) L st) : rx_W p l e R s m args below meth c Q G k nL cells slots h n pc L (.int v :: .int i :: .ref (q + 7) :: st) := by
  obtain ⟨hin, rfl⟩ := rx_astE hx
  subst ho
  exact rx_iast C hdg hb.2.2.2.2.2.2.2.1 hin (K _ hb.ast10 (rx_fr1 (by omega) (by omega)))
theorem bP.wr11 {k : Nat → Nat} {q g n9 n1 : Nat} {o o1 : ob} {h h1 : hp} {f : Nat → Int32} (hb : bP k q g o h) (ho : (o.1, va_up o.2 11 f) = o1) (hu : (h1, n1) = (va_up h (q + 8) (some (rx_ia k 10 f)), n9)) : bP k q g o1 h1 ∧ rx_fr [(q, 10)] h h1 ∧ n1 = n9 := by
  cases hu
  subst ho
  exact ⟨hb.ast11, rx_fr1 (by omega) (by omega), rfl⟩
theorem rx_aP11 (C : rx_C G k p m c cc own nL ret s args meth) {q g : Nat} {o o1 : ob} {f : Nat → Int32} {i v : Int32} (hdg : decode cc pc = .ok (.iastore, 1)) (hb : bP k q g o h) (hx : rx_ast 10 (o.2 11) i v = some f) (ho : (o.1, va_up o.2 11 f) = o1) (K : ∀ h1, bP k q g o1 h1 → rx_fr [(q, 10)] h h1 → rx_W p l e R s m args below meth c Q G k nL cells slots h1 n (pc + 1) L st) : rx_W p l e R s m args below meth c Q G k nL cells slots h n pc L (.int v :: .int i :: .ref (q + 8) :: st) := by
  obtain ⟨hin, rfl⟩ := rx_astE hx
  subst ho
  exact rx_iast C hdg hb.2.2.2.2.2.2.2.2.1 hin (K _ hb.ast11 (rx_fr1 (by omega) (by omega)))
theorem bP.wr12 {k : Nat → Nat} {q g n9 n1 : Nat} {o o1 : ob} {h h1 : hp} {f : Nat → Int32} (hb : bP k q g o h) (ho : (o.1, va_up o.2 12 f) = o1) (hu : (h1, n1) = (va_up h (q + 9) (some (rx_ia k 10 f)), n9)) : bP k q g o1 h1 ∧ rx_fr [(q, 10)] h h1 ∧ n1 = n9 := by
  cases hu
  subst ho
  exact ⟨hb.ast12, rx_fr1 (by omega) (by omega), rfl⟩
theorem rx_aP12 (C : rx_C G k p m c cc own nL ret s args meth) {q g : Nat} {o o1 : ob} {f : Nat → Int32} {i v : Int32} (hdg : decode cc pc = .ok (.iastore, 1)) (hb : bP k q g o h) (hx : rx_ast 10 (o.2 12) i v = some f) (ho : (o.1, va_up o.2 12 f) = o1) (K : ∀ h1, bP k q g o1 h1 → rx_fr [(q, 10)] h h1 → rx_W p l e R s m args below meth c Q G k nL cells slots h1 n (pc + 1) L st) : rx_W p l e R s m args below meth c Q G k nL cells slots h n pc L (.int v :: .int i :: .ref (q + 9) :: st) := by
  obtain ⟨hin, rfl⟩ := rx_astE hx
  subst ho
  exact rx_iast C hdg hb.2.2.2.2.2.2.2.2.2 hin (K _ hb.ast12 (rx_fr1 (by omega) (by omega)))
theorem rx_pH1 (C : rx_C G k p m c cc own nL ret s args meth) {index q : Nat} {o o1 : ob} {v : Int32} (hF : rx_F own index 0 1) (hdg : decode cc pc = .ok (.putfield index, 3)) (hb : bH k q o h) (ho : (upd o.1 1 v, o.2) = o1) (K : ∀ h1, bH k q o1 h1 → rx_fr [(q, 2)] h h1 → rx_W p l e R s m args below meth c Q G k nL cells slots h1 n (pc + 3) L st) : rx_W p l e R s m args below meth c Q G k nL cells slots h n pc L (.int v :: .ref q :: st) := by
  subst ho
  exact rx_putf C hF t_X1_1 hdg hb.1 (Nat.le_of_ble_eq_true rfl) rfl rfl (K _ hb.put1 (rx_fr1 (Nat.le_refl _) (by omega)))
theorem rx_pH1N (C : rx_C G k p m c cc own nL ret s args meth) {index q : Nat} {o o1 : ob} {v : Int32} (hF : rx_FN own index 0 1) (hdg : decode cc pc = .ok (.putfield index, 3)) (hb : bH k q o h) (ho : (upd o.1 1 v, o.2) = o1) (K : ∀ h1, bH k q o1 h1 → rx_fr [(q, 2)] h h1 → rx_W p l e R s m args below meth c Q G k nL cells slots h1 n (pc + 3) L st) : rx_W p l e R s m args below meth c Q G k nL cells slots h n pc L (.int v :: .ref q :: st) := by
  subst ho
  exact rx_putfN C hF t_X1_1 hdg hb.1 (Nat.le_of_ble_eq_true rfl) rfl rfl (K _ hb.put1 (rx_fr1 (Nat.le_refl _) (by omega)))
theorem rx_pH2 (C : rx_C G k p m c cc own nL ret s args meth) {index q : Nat} {o o1 : ob} {v : Int32} (hF : rx_F own index 0 2) (hdg : decode cc pc = .ok (.putfield index, 3)) (hb : bH k q o h) (ho : (upd o.1 2 v, o.2) = o1) (K : ∀ h1, bH k q o1 h1 → rx_fr [(q, 2)] h h1 → rx_W p l e R s m args below meth c Q G k nL cells slots h1 n (pc + 3) L st) : rx_W p l e R s m args below meth c Q G k nL cells slots h n pc L (.int v :: .ref q :: st) := by
  subst ho
  exact rx_putf C hF t_X1_2 hdg hb.1 (Nat.le_of_ble_eq_true rfl) rfl rfl (K _ hb.put2 (rx_fr1 (Nat.le_refl _) (by omega)))
theorem rx_pH2N (C : rx_C G k p m c cc own nL ret s args meth) {index q : Nat} {o o1 : ob} {v : Int32} (hF : rx_FN own index 0 2) (hdg : decode cc pc = .ok (.putfield index, 3)) (hb : bH k q o h) (ho : (upd o.1 2 v, o.2) = o1) (K : ∀ h1, bH k q o1 h1 → rx_fr [(q, 2)] h h1 → rx_W p l e R s m args below meth c Q G k nL cells slots h1 n (pc + 3) L st) : rx_W p l e R s m args below meth c Q G k nL cells slots h n pc L (.int v :: .ref q :: st) := by
  subst ho
  exact rx_putfN C hF t_X1_2 hdg hb.1 (Nat.le_of_ble_eq_true rfl) rfl rfl (K _ hb.put2 (rx_fr1 (Nat.le_refl _) (by omega)))
theorem rx_pC3 (C : rx_C G k p m c cc own nL ret s args meth) {index q : Nat} {o o1 : obv} {v : Int32} (hF : rx_F own index 3 3) (hdg : decode cc pc = .ok (.putfield index, 3)) (hb : bC k q o h) (ho : ((upd o.1.1 3 v, o.1.2), o.2) = o1) (K : ∀ h1, bC k q o1 h1 → rx_fr [(q, 4)] h h1 → rx_W p l e R s m args below meth c Q G k nL cells slots h1 n (pc + 3) L st) : rx_W p l e R s m args below meth c Q G k nL cells slots h n pc L (.int v :: .ref q :: st) := by
  subst ho
  exact rx_putf C hF t_X4_3 hdg hb.1 (Nat.le_of_ble_eq_true rfl) rfl rfl (K _ hb.put3 (rx_fr1 (Nat.le_refl _) (by omega)))
theorem rx_pC3N (C : rx_C G k p m c cc own nL ret s args meth) {index q : Nat} {o o1 : obv} {v : Int32} (hF : rx_FN own index 3 3) (hdg : decode cc pc = .ok (.putfield index, 3)) (hb : bC k q o h) (ho : ((upd o.1.1 3 v, o.1.2), o.2) = o1) (K : ∀ h1, bC k q o1 h1 → rx_fr [(q, 4)] h h1 → rx_W p l e R s m args below meth c Q G k nL cells slots h1 n (pc + 3) L st) : rx_W p l e R s m args below meth c Q G k nL cells slots h n pc L (.int v :: .ref q :: st) := by
  subst ho
  exact rx_putfN C hF t_X4_3 hdg hb.1 (Nat.le_of_ble_eq_true rfl) rfl rfl (K _ hb.put3 (rx_fr1 (Nat.le_refl _) (by omega)))
theorem bC.wr1 {k : Nat → Nat} {q n9 n1 : Nat} {o o1 : obv} {h h1 : hp} {f : Nat → Int32} (hb : bC k q o h) (ho : ((o.1.1, va_up o.1.2 1 f), o.2) = o1) (hu : (h1, n1) = (va_up h (q + 2) (some (rx_ia k 20 f)), n9)) : bC k q o1 h1 ∧ rx_fr [(q, 4)] h h1 ∧ n1 = n9 := by
  cases hu
  subst ho
  exact ⟨hb.ast1, rx_fr1 (by omega) (by omega), rfl⟩
theorem rx_aC1 (C : rx_C G k p m c cc own nL ret s args meth) {q : Nat} {o o1 : obv} {f : Nat → Int32} {i v : Int32} (hdg : decode cc pc = .ok (.iastore, 1)) (hb : bC k q o h) (hx : rx_ast 20 (o.1.2 1) i v = some f) (ho : ((o.1.1, va_up o.1.2 1 f), o.2) = o1) (K : ∀ h1, bC k q o1 h1 → rx_fr [(q, 4)] h h1 → rx_W p l e R s m args below meth c Q G k nL cells slots h1 n (pc + 1) L st) : rx_W p l e R s m args below meth c Q G k nL cells slots h n pc L (.int v :: .int i :: .ref (q + 2) :: st) := by
  obtain ⟨hin, rfl⟩ := rx_astE hx
  subst ho
  exact rx_iast C hdg hb.2.2.1 hin (K _ hb.ast1 (rx_fr1 (by omega) (by omega)))
theorem bC.wr2 {k : Nat → Nat} {q n9 n1 : Nat} {o o1 : obv} {h h1 : hp} {f : Nat → Int32} (hb : bC k q o h) (ho : ((o.1.1, va_up o.1.2 2 f), o.2) = o1) (hu : (h1, n1) = (va_up h (q + 3) (some (rx_ia k 20 f)), n9)) : bC k q o1 h1 ∧ rx_fr [(q, 4)] h h1 ∧ n1 = n9 := by
  cases hu
  subst ho
  exact ⟨hb.ast2, rx_fr1 (by omega) (by omega), rfl⟩
theorem rx_aC2 (C : rx_C G k p m c cc own nL ret s args meth) {q : Nat} {o o1 : obv} {f : Nat → Int32} {i v : Int32} (hdg : decode cc pc = .ok (.iastore, 1)) (hb : bC k q o h) (hx : rx_ast 20 (o.1.2 2) i v = some f) (ho : ((o.1.1, va_up o.1.2 2 f), o.2) = o1) (K : ∀ h1, bC k q o1 h1 → rx_fr [(q, 4)] h h1 → rx_W p l e R s m args below meth c Q G k nL cells slots h1 n (pc + 1) L st) : rx_W p l e R s m args below meth c Q G k nL cells slots h n pc L (.int v :: .int i :: .ref (q + 3) :: st) := by
  obtain ⟨hin, rfl⟩ := rx_astE hx
  subst ho
  exact rx_iast C hdg hb.2.2.2.1 hin (K _ hb.ast2 (rx_fr1 (by omega) (by omega)))
theorem rx_pM2 (C : rx_C G k p m c cc own nL ret s args meth) {index q : Nat} {o o1 : ob} {v : Int32} (hF : rx_F own index 8 2) (hdg : decode cc pc = .ok (.putfield index, 3)) (hb : bM k q o h) (ho : (upd o.1 2 v, o.2) = o1) (K : ∀ h1, bM k q o1 h1 → rx_fr [(q, 3)] h h1 → rx_W p l e R s m args below meth c Q G k nL cells slots h1 n (pc + 3) L st) : rx_W p l e R s m args below meth c Q G k nL cells slots h n pc L (.int v :: .ref q :: st) := by
  subst ho
  exact rx_putf C hF t_L_2 hdg hb.1 (Nat.le_of_ble_eq_true rfl) rfl rfl (K _ hb.put2 (rx_fr1 (Nat.le_refl _) (by omega)))
theorem rx_pM2N (C : rx_C G k p m c cc own nL ret s args meth) {index q : Nat} {o o1 : ob} {v : Int32} (hF : rx_FN own index 8 2) (hdg : decode cc pc = .ok (.putfield index, 3)) (hb : bM k q o h) (ho : (upd o.1 2 v, o.2) = o1) (K : ∀ h1, bM k q o1 h1 → rx_fr [(q, 3)] h h1 → rx_W p l e R s m args below meth c Q G k nL cells slots h1 n (pc + 3) L st) : rx_W p l e R s m args below meth c Q G k nL cells slots h n pc L (.int v :: .ref q :: st) := by
  subst ho
  exact rx_putfN C hF t_L_2 hdg hb.1 (Nat.le_of_ble_eq_true rfl) rfl rfl (K _ hb.put2 (rx_fr1 (Nat.le_refl _) (by omega)))
theorem rx_pM3 (C : rx_C G k p m c cc own nL ret s args meth) {index q : Nat} {o o1 : ob} {v : Int32} (hF : rx_F own index 8 3) (hdg : decode cc pc = .ok (.putfield index, 3)) (hb : bM k q o h) (ho : (upd o.1 3 v, o.2) = o1) (K : ∀ h1, bM k q o1 h1 → rx_fr [(q, 3)] h h1 → rx_W p l e R s m args below meth c Q G k nL cells slots h1 n (pc + 3) L st) : rx_W p l e R s m args below meth c Q G k nL cells slots h n pc L (.int v :: .ref q :: st) := by
  subst ho
  exact rx_putf C hF t_L_3 hdg hb.1 (Nat.le_of_ble_eq_true rfl) rfl rfl (K _ hb.put3 (rx_fr1 (Nat.le_refl _) (by omega)))
theorem rx_pM3N (C : rx_C G k p m c cc own nL ret s args meth) {index q : Nat} {o o1 : ob} {v : Int32} (hF : rx_FN own index 8 3) (hdg : decode cc pc = .ok (.putfield index, 3)) (hb : bM k q o h) (ho : (upd o.1 3 v, o.2) = o1) (K : ∀ h1, bM k q o1 h1 → rx_fr [(q, 3)] h h1 → rx_W p l e R s m args below meth c Q G k nL cells slots h1 n (pc + 3) L st) : rx_W p l e R s m args below meth c Q G k nL cells slots h n pc L (.int v :: .ref q :: st) := by
  subst ho
  exact rx_putfN C hF t_L_3 hdg hb.1 (Nat.le_of_ble_eq_true rfl) rfl rfl (K _ hb.put3 (rx_fr1 (Nat.le_refl _) (by omega)))
theorem rx_pM4 (C : rx_C G k p m c cc own nL ret s args meth) {index q : Nat} {o o1 : ob} {v : Int32} (hF : rx_F own index 8 4) (hdg : decode cc pc = .ok (.putfield index, 3)) (hb : bM k q o h) (ho : (upd o.1 4 v, o.2) = o1) (K : ∀ h1, bM k q o1 h1 → rx_fr [(q, 3)] h h1 → rx_W p l e R s m args below meth c Q G k nL cells slots h1 n (pc + 3) L st) : rx_W p l e R s m args below meth c Q G k nL cells slots h n pc L (.int v :: .ref q :: st) := by
  subst ho
  exact rx_putf C hF t_L_4 hdg hb.1 (Nat.le_of_ble_eq_true rfl) rfl rfl (K _ hb.put4 (rx_fr1 (Nat.le_refl _) (by omega)))
theorem rx_pM4N (C : rx_C G k p m c cc own nL ret s args meth) {index q : Nat} {o o1 : ob} {v : Int32} (hF : rx_FN own index 8 4) (hdg : decode cc pc = .ok (.putfield index, 3)) (hb : bM k q o h) (ho : (upd o.1 4 v, o.2) = o1) (K : ∀ h1, bM k q o1 h1 → rx_fr [(q, 3)] h h1 → rx_W p l e R s m args below meth c Q G k nL cells slots h1 n (pc + 3) L st) : rx_W p l e R s m args below meth c Q G k nL cells slots h n pc L (.int v :: .ref q :: st) := by
  subst ho
  exact rx_putfN C hF t_L_4 hdg hb.1 (Nat.le_of_ble_eq_true rfl) rfl rfl (K _ hb.put4 (rx_fr1 (Nat.le_refl _) (by omega)))
theorem bM.wr0 {k : Nat → Nat} {q n9 n1 : Nat} {o o1 : ob} {h h1 : hp} {f : Nat → Int32} (hb : bM k q o h) (ho : (o.1, va_up o.2 0 f) = o1) (hu : (h1, n1) = (va_up h (q + 1) (some (rx_ia k 500 f)), n9)) : bM k q o1 h1 ∧ rx_fr [(q, 3)] h h1 ∧ n1 = n9 := by
  cases hu
  subst ho
  exact ⟨hb.ast0, rx_fr1 (by omega) (by omega), rfl⟩
theorem rx_aM0 (C : rx_C G k p m c cc own nL ret s args meth) {q : Nat} {o o1 : ob} {f : Nat → Int32} {i v : Int32} (hdg : decode cc pc = .ok (.iastore, 1)) (hb : bM k q o h) (hx : rx_ast 500 (o.2 0) i v = some f) (ho : (o.1, va_up o.2 0 f) = o1) (K : ∀ h1, bM k q o1 h1 → rx_fr [(q, 3)] h h1 → rx_W p l e R s m args below meth c Q G k nL cells slots h1 n (pc + 1) L st) : rx_W p l e R s m args below meth c Q G k nL cells slots h n pc L (.int v :: .int i :: .ref (q + 1) :: st) := by
  obtain ⟨hin, rfl⟩ := rx_astE hx
  subst ho
  exact rx_iast C hdg hb.2.1 hin (K _ hb.ast0 (rx_fr1 (by omega) (by omega)))
theorem bM.wr1 {k : Nat → Nat} {q n9 n1 : Nat} {o o1 : ob} {h h1 : hp} {f : Nat → Int32} (hb : bM k q o h) (ho : (o.1, va_up o.2 1 f) = o1) (hu : (h1, n1) = (va_up h (q + 2) (some (rx_ia k 5 f)), n9)) : bM k q o1 h1 ∧ rx_fr [(q, 3)] h h1 ∧ n1 = n9 := by
  cases hu
  subst ho
  exact ⟨hb.ast1, rx_fr1 (by omega) (by omega), rfl⟩
theorem rx_aM1 (C : rx_C G k p m c cc own nL ret s args meth) {q : Nat} {o o1 : ob} {f : Nat → Int32} {i v : Int32} (hdg : decode cc pc = .ok (.iastore, 1)) (hb : bM k q o h) (hx : rx_ast 5 (o.2 1) i v = some f) (ho : (o.1, va_up o.2 1 f) = o1) (K : ∀ h1, bM k q o1 h1 → rx_fr [(q, 3)] h h1 → rx_W p l e R s m args below meth c Q G k nL cells slots h1 n (pc + 1) L st) : rx_W p l e R s m args below meth c Q G k nL cells slots h n pc L (.int v :: .int i :: .ref (q + 2) :: st) := by
  obtain ⟨hin, rfl⟩ := rx_astE hx
  subst ho
  exact rx_iast C hdg hb.2.2 hin (K _ hb.ast1 (rx_fr1 (by omega) (by omega)))
theorem rx_pB9 (C : rx_C G k p m c cc own nL ret s args meth) {index q : Nat} {o o1 : ob} {v : Int32} (hF : rx_F own index 7 9) (hdg : decode cc pc = .ok (.putfield index, 3)) (hb : bB k q o h) (ho : (upd o.1 9 v, o.2) = o1) (K : ∀ h1, bB k q o1 h1 → rx_fr [(q, 1)] h h1 → rx_W p l e R s m args below meth c Q G k nL cells slots h1 n (pc + 3) L st) : rx_W p l e R s m args below meth c Q G k nL cells slots h n pc L (.int v :: .ref q :: st) := by
  subst ho
  exact rx_putf C hF t_X8_9 hdg hb (Nat.le_of_ble_eq_true rfl) rfl rfl (K _ hb.put9 (rx_fr1 (Nat.le_refl _) (by omega)))
theorem rx_pB9N (C : rx_C G k p m c cc own nL ret s args meth) {index q : Nat} {o o1 : ob} {v : Int32} (hF : rx_FN own index 7 9) (hdg : decode cc pc = .ok (.putfield index, 3)) (hb : bB k q o h) (ho : (upd o.1 9 v, o.2) = o1) (K : ∀ h1, bB k q o1 h1 → rx_fr [(q, 1)] h h1 → rx_W p l e R s m args below meth c Q G k nL cells slots h1 n (pc + 3) L st) : rx_W p l e R s m args below meth c Q G k nL cells slots h n pc L (.int v :: .ref q :: st) := by
  subst ho
  exact rx_putfN C hF t_X8_9 hdg hb (Nat.le_of_ble_eq_true rfl) rfl rfl (K _ hb.put9 (rx_fr1 (Nat.le_refl _) (by omega)))
theorem rx_pB10 (C : rx_C G k p m c cc own nL ret s args meth) {index q : Nat} {o o1 : ob} {v : Int32} (hF : rx_F own index 7 10) (hdg : decode cc pc = .ok (.putfield index, 3)) (hb : bB k q o h) (ho : (upd o.1 10 v, o.2) = o1) (hz : v = 0 ∨ v = 1) (K : ∀ h1, bB k q o1 h1 → rx_fr [(q, 1)] h h1 → rx_W p l e R s m args below meth c Q G k nL cells slots h1 n (pc + 3) L st) : rx_W p l e R s m args below meth c Q G k nL cells slots h n pc L (.int v :: .ref q :: st) := by
  subst ho
  exact rx_putf C hF t_X8_10 hdg hb (Nat.le_of_ble_eq_true rfl) (rx_nz hz) (rx_fz hz) (K _ hb.put10 (rx_fr1 (Nat.le_refl _) (by omega)))
theorem rx_pB10N (C : rx_C G k p m c cc own nL ret s args meth) {index q : Nat} {o o1 : ob} {v : Int32} (hF : rx_FN own index 7 10) (hdg : decode cc pc = .ok (.putfield index, 3)) (hb : bB k q o h) (ho : (upd o.1 10 v, o.2) = o1) (hz : v = 0 ∨ v = 1) (K : ∀ h1, bB k q o1 h1 → rx_fr [(q, 1)] h h1 → rx_W p l e R s m args below meth c Q G k nL cells slots h1 n (pc + 3) L st) : rx_W p l e R s m args below meth c Q G k nL cells slots h n pc L (.int v :: .ref q :: st) := by
  subst ho
  exact rx_putfN C hF t_X8_10 hdg hb (Nat.le_of_ble_eq_true rfl) (rx_nz hz) (rx_fz hz) (K _ hb.put10 (rx_fr1 (Nat.le_refl _) (by omega)))
theorem bO.wr0 {k : Nat → Nat} {q n9 n1 : Nat} {o o1 : ob} {h h1 : hp} {f : Nat → Int32} (hb : bO k q o h) (ho : (o.1, va_up o.2 0 f) = o1) (hu : (h1, n1) = (va_up h q (some (rx_ia k 64 f)), n9)) : bO k q o1 h1 ∧ rx_fr [(q, 1)] h h1 ∧ n1 = n9 := by
  cases hu
  subst ho
  exact ⟨hb.ast0, rx_fr1 (Nat.le_refl _) (by omega), rfl⟩
theorem rx_aO0 (C : rx_C G k p m c cc own nL ret s args meth) {q : Nat} {o o1 : ob} {f : Nat → Int32} {i v : Int32} (hdg : decode cc pc = .ok (.iastore, 1)) (hb : bO k q o h) (hx : rx_ast 64 (o.2 0) i v = some f) (ho : (o.1, va_up o.2 0 f) = o1) (K : ∀ h1, bO k q o1 h1 → rx_fr [(q, 1)] h h1 → rx_W p l e R s m args below meth c Q G k nL cells slots h1 n (pc + 1) L st) : rx_W p l e R s m args below meth c Q G k nL cells slots h n pc L (.int v :: .int i :: .ref q :: st) := by
  obtain ⟨hin, rfl⟩ := rx_astE hx
  subst ho
  exact rx_iast C hdg hb hin (K _ hb.ast0 (rx_fr1 (Nat.le_refl _) (by omega)))
theorem rx_aldF (C : rx_C G k p m c cc own nL ret s args meth) {a len : Nat} {f : Nat → Int32} {i x : Int32} (hdg : decode cc pc = .ok (.iaload, 1)) (hh : h a = some (rx_ia k len f)) (hx : rx_ald len f i = some x)
    (K : rx_W p l e R s m args below meth c Q G k nL cells slots h n (pc + 1) L (.int x :: st)) : rx_W p l e R s m args below meth c Q G k nL cells slots h n pc L (.int i :: .ref a :: st) := by
  obtain ⟨hin, rfl⟩ := rx_aldE hx
  exact rx_iald C hdg hh hin K
theorem rx_idivF (C : rx_C G k p m c cc own nL ret s args meth) {x y z : Int32} (hdg : decode cc pc = .ok (.idiv, 1)) (hx : rx_div x y = some z) (K : rx_W p l e R s m args below meth c Q G k nL cells slots h n (pc + 1) L (.int z :: st)) : rx_W p l e R s m args below meth c Q G k nL cells slots h n pc L (.int y :: .int x :: st) := by
  obtain ⟨hn, rfl⟩ := rx_divE hx
  exact rx_idiv C hdg hn K
theorem rx_iremF (C : rx_C G k p m c cc own nL ret s args meth) {x y z : Int32} (hdg : decode cc pc = .ok (.irem, 1)) (hx : rx_rem x y = some z) (K : rx_W p l e R s m args below meth c Q G k nL cells slots h n (pc + 1) L (.int z :: st)) : rx_W p l e R s m args below meth c Q G k nL cells slots h n pc L (.int y :: .int x :: st) := by
  obtain ⟨hn, rfl⟩ := rx_remE hx
  exact rx_irem C hdg hn K
/-- fewer locals, in another order -/
theorem rx_sub {L2 : List (Nat × Value)} (ks : List Nat) (hl : lv_pick L ks = L2) (K : rx_W p l e R s m args below meth c Q G k nL cells slots h n pc L2 st) : rx_W p l e R s m args below meth c Q G k nL cells slots h n pc L st := fun H locs ls hP hS hl0 => K H locs ls hP hS (lv_sub hl0 ks hl)
def rx_vld (f : Nat → Option Nat) (i : Int32) : Option (Option Nat) := if 0 ≤ i ∧ i.toNatClampNeg < 20 then some (f i.toNatClampNeg) else none
def rx_vst (f : Nat → Option Nat) (i : Int32) (z : Nat) : Option (Nat → Option Nat) := if 0 ≤ i ∧ i.toNatClampNeg < 20 then some (va_up f i.toNatClampNeg (some z)) else none
theorem rx_vald (C : rx_C G k p m c cc own nL ret s args meth) {q : Nat} {o : obv} {i : Int32} {y : Option Nat} (hdg : decode cc pc = .ok (.aaload, 1)) (hb : bC k q o h) (hx : rx_vld o.2 i = some y)
    (K : rx_W p l e R s m args below meth c Q G k nL cells slots h n (pc + 1) L (va_rf (y.map (fun z => k (10 + z))) :: st)) : rx_W p l e R s m args below meth c Q G k nL cells slots h n pc L (.int i :: .ref (q + 1) :: st) := by
  unfold rx_vld at hx
  split at hx
  · rename_i hi
    cases hx
    exact rx_qaldV C hdg hb.2.1 (rx_vin hi) K
  · cases hx
theorem rx_vast (C : rx_C G k p m c cc own nL ret s args meth) {q z : Nat} {o o1 : obv} {i : Int32} {f : Nat → Option Nat} (hdg : decode cc pc = .ok (.aastore, 1)) (hb : bC k q o h) (hz : z < 9) (hx : rx_vst o.2 i z = some f) (ho : (o.1, f) = o1)
    (K : ∀ h1, bC k q o1 h1 → rx_fr [(q, 4)] h h1 → rx_W p l e R s m args below meth c Q G k nL cells slots h1 n (pc + 1) L st) : rx_W p l e R s m args below meth c Q G k nL cells slots h n pc L (.ref (k (10 + z)) :: .int i :: .ref (q + 1) :: st) := by
  unfold rx_vst at hx
  split at hx
  · rename_i hi
    cases hx
    subst ho
    exact rx_qastV C hdg hb.2.1 hz (rx_vin hi) ⟨_, (C.2.2.2.2.2.2.2.1.1.1 6 (RX7, TX7, 0) rfl).2⟩ (K _ (hb.vst hz) (rx_fr1 (by omega) (by omega)))
  · cases hx
theorem rx_vldE {q : Nat} {o : obv} {i : Int32} {y : Option Nat} (hb : bC k q o h) (hx : rx_vld o.2 i = some y) : ∀ z, y = some z → z < 9 := fun z hz => by
  unfold rx_vld at hx
  split at hx
  · cases hx
    exact hb.2.2.2.2 _ _ hz
  · cases hx
def rx_vix (i : Int32) : Option Nat := if 0 ≤ i ∧ i.toNatClampNeg < 9 then some i.toNatClampNeg else none
theorem rx_vixE {i : Int32} {z : Nat} (hx : rx_vix i = some z) : z < 9 := by
  unfold rx_vix at hx
  split at hx
  · rename_i hi
    cases hx
    exact hi.2
  · cases hx
end RXP
end
section
set_option maxRecDepth 100000 in
theorem lk_L_34 : Cond.constant RL 34 (1073741823 : Int32) ∈ rx_good := (rx_g2 131 rfl rfl)
set_option maxRecDepth 100000 in
theorem sf_J0_38 : Cond.fieldLink RJ0 38 RJ0 "COMPACT_STRINGS" "Z" ∈ rx_good := (rx_g2 149 rfl rfl)
set_option maxRecDepth 100000 in
theorem sf_J0_1053 : Cond.fieldLink RJ0 1053 RJ3 "SIOOBE_FORMATTER" "Ljava/util/function/BiFunction;" ∈ rx_good := (rx_g2 165 rfl rfl)
set_option maxRecDepth 100000 in
theorem sf_J2_44 : Cond.fieldLink RJ2 44 RJ2 "$assertionsDisabled" "Z" ∈ rx_good := (rx_g2 183 rfl rfl)
set_option maxRecDepth 100000 in
theorem sf_J2_59 : Cond.fieldLink RJ2 59 RJ2 "HI_BYTE_SHIFT" "I" ∈ rx_good := (rx_g2 185 rfl rfl)
set_option maxRecDepth 100000 in
theorem sf_J2_63 : Cond.fieldLink RJ2 63 RJ2 "LO_BYTE_SHIFT" "I" ∈ rx_good := (rx_g2 187 rfl rfl)
set_option maxRecDepth 100000 in
theorem lk_L_60 : Cond.constant RL 60 (32768 : Int32) ∈ rx_good := (rx_g2 197 rfl rfl)
set_option maxRecDepth 100000 in
theorem lk_L_61 : Cond.constant RL 61 (524288 : Int32) ∈ rx_good := (rx_g2 198 rfl rfl)
set_option maxRecDepth 100000 in
theorem sf_X8_286 : Cond.fieldLink RX8 286 RX7 "DROP" "LBeggarKings$Verb;" ∈ rx_good := (rx_g3 209 rfl rfl)
set_option maxRecDepth 100000 in
theorem sf_X2_194 : Cond.fieldLink RX2 194 RX0 "$SwitchMap$BeggarKings$Verb" "[I" ∈ rx_good := (rx_g3 224 rfl rfl)
set_option maxRecDepth 100000 in
theorem sf_X8_299 : Cond.fieldLink RX8 299 RX7 "PICK" "LBeggarKings$Verb;" ∈ rx_good := (rx_g4 72 rfl rfl)
set_option maxRecDepth 100000 in
theorem sf_X8_305 : Cond.fieldLink RX8 305 RX7 "LAY" "LBeggarKings$Verb;" ∈ rx_good := (rx_g4 91 rfl rfl)
set_option maxRecDepth 100000 in
theorem sf_X8_311 : Cond.fieldLink RX8 311 RX7 "LIFT" "LBeggarKings$Verb;" ∈ rx_good := (rx_g4 113 rfl rfl)
set_option maxRecDepth 100000 in
theorem sf_X8_317 : Cond.fieldLink RX8 317 RX7 "SWAP" "LBeggarKings$Verb;" ∈ rx_good := (rx_g4 123 rfl rfl)
set_option maxRecDepth 100000 in
theorem sf_X8_323 : Cond.fieldLink RX8 323 RX7 "QUEUE" "LBeggarKings$Verb;" ∈ rx_good := (rx_g4 138 rfl rfl)
set_option maxRecDepth 100000 in
theorem sf_X8_329 : Cond.fieldLink RX8 329 RX7 "QUIT" "LBeggarKings$Verb;" ∈ rx_good := (rx_g4 153 rfl rfl)
set_option maxRecDepth 100000 in
theorem sf_X8_335 : Cond.fieldLink RX8 335 RX7 "PRIDE" "LBeggarKings$Verb;" ∈ rx_good := (rx_g4 167 rfl rfl)
set_option maxRecDepth 100000 in
theorem sf_X8_341 : Cond.fieldLink RX8 341 RX7 "TURN" "LBeggarKings$Verb;" ∈ rx_good := (rx_g4 177 rfl rfl)
set_option maxRecDepth 100000 in
theorem sf_J0_9 : Cond.fieldLink RJ0 9 RJ0 "value" "[B" ∈ rx_good := (rx_g5 58 rfl rfl)
set_option maxRecDepth 100000 in
theorem sf_J0_15 : Cond.fieldLink RJ0 15 RJ0 "coder" "B" ∈ rx_good := (rx_g5 59 rfl rfl)
set_option maxRecDepth 100000 in
theorem sf_X2_181 : Cond.fieldLinkNest RX2 181 RX7 "people" "I" "BeggarKings" ∈ rx_nest := (rx_n5 60 rfl rfl)
set_option maxRecDepth 100000 in
theorem sf_Jx29ce0_7 : Cond.fieldLink RJx29ce0 7 RJx29ce0 "ordinal" "I" ∈ rx_good := (rx_g5 61 rfl rfl)
set_option maxRecDepth 100000 in
theorem sf_X7_63 : Cond.fieldLink RX7 63 RX7 "low" "I" ∈ rx_good := (rx_g5 62 rfl rfl)
set_option maxRecDepth 100000 in
theorem sf_X7_66 : Cond.fieldLink RX7 66 RX7 "high" "I" ∈ rx_good := (rx_g5 63 rfl rfl)
set_option maxRecDepth 100000 in
theorem ord_same : Cond.sameMethod "BeggarKings$Verb" "java/lang/Enum" "ordinal" "()I" ∈ rx_good := (rx_g3 227 rfl rfl)
set_option maxRecDepth 100000 in
theorem ord_sel : Cond.selects "BeggarKings$Verb" ⟨"BeggarKings$Verb", "ordinal", "()I"⟩ ⟨"java/lang/Enum", "ordinal", "()I"⟩ ∈ rx_good := (rx_g3 229 rfl rfl)
set_option maxRecDepth 100000 in
theorem ord_inst : Cond.instanceMethod ⟨"java/lang/Enum", "ordinal", "()I"⟩ ∈ rx_good := (rx_g3 230 rfl rfl)
set_option maxRecDepth 100000 in
theorem ord_ini : Cond.initialized "java/lang/Enum" ∈ rx_good := (rx_g1 19 rfl rfl)
set_option maxRecDepth 100000 in
theorem ord_iniv : Cond.initialized "BeggarKings$Verb" ∈ rx_good := (rx_g1 20 rfl rfl)
set_option maxRecDepth 100000 in
theorem m_X2_199 : Cond.methodLink "BeggarKings$Position" 199 ⟨"BeggarKings$Verb", "ordinal", "()I"⟩ ∈ rx_good := (rx_g3 226 rfl rfl)
def rx_vt (i z : Nat) : Int32 := (rx_vf.getD i ("", [])).2.getD z 0
def rx_sw (z : Nat) : Int32 := rx_sm.getD z 0
theorem rx_swin {z : Nat} (h : z < 9) : vp_in (nI z) 9 := fun q => by
  rcases q with q | q
  · exact nI_pos (by omega) q
  · rw [nI_clamp (by omega)] at q; omega
theorem rx_swv {z : Nat} (h : z < 9) : (fun j => Value.int (rx_sm.getD j 0)) (nI z).toNatClampNeg = .int (rx_sw z) := by
  show Value.int (rx_sm.getD (nI z).toNatClampNeg 0) = _
  rw [nI_clamp (by omega)]
  rfl
theorem rx_neI {x c : Int32} (h : ¬ x = c) : x.toInt ≠ c.toInt := fun q => h (Int32.toInt_inj.mp q)
/-- a text's letter, as charAt answers it -/
def rx_chr (t : Nat) (i : Int32) : Option Int32 := if 0 ≤ i ∧ i.toNatClampNeg < rx_len.getD t 0 then some ((rx_byt.getD t []).getD i.toNatClampNeg 0) else none
section RXS
variable {p : Program} {l : Launch} {e : Env} {R : Room} {s : State} {m : MethodId} {args : Array Value} {below : List Frame} {meth : Method} {c : Code} {Q : State → Prop} {G : va_G} {k : Nat → Nat} {cc : ByteArray} {own : String} {nL : Nat} {ret : Option FieldType} {cells slots : Nat} {h : hp} {n pc : Nat} {L : List (Nat × Value)} {st : List Value}
theorem rx_vO (C : rx_C G k p m c cc own nL ret s args meth) {z : Nat} (hz : z < 9) (i : Nat) {nm : String} (hi : (rx_vf[i]?).map (fun f => f.1) = some nm) : va_OF RX7 nm "I" (.int (rx_vt i z)) (k (10 + z)) (fun q => k 0 ≤ q) s s.heap := by
  cases hf : rx_vf[i]? with
  | none => rw [hf] at hi; cases hi
  | some f =>
    rw [hf] at hi
    cases hi
    have h1 := (C.2.2.2.2.2.2.2.2.2.1 z hz).2.2.2.2 f (List.mem_of_getElem? hf)
    have e0 : rx_vf.getD i ("", []) = f := by rw [List.getD_eq_getElem?_getD, hf]; rfl
    have e : rx_vt i z = f.2.getD z 0 := by unfold rx_vt; rw [e0]
    rw [e]
    exact h1
theorem w_ordinal {z : Nat} (hz : z < 9) : Met l yJx29ce0_ordinal_8abf5 (rx_ws yJx29ce0_ordinal_8abf5 cJx29ce0_ordinal_8abf5 1 (some .int)) (rx_rm 0 0) (va_Pc [.ref (k (10 + z))] (rx_G G k h n)) (va_Qi (fun r u => nI z = r ∧ u = (h, n)) (rx_B G k) (rx_A k)) 0 0 (rx_A k) := by
  refine rx_start [(0, .ref (k (10 + z)))] rfl (Nat.le_of_ble_eq_true rfl) (by decide +kernel) rfl (fun P9 E9 S9 M9 A9 B9 me9 c9 C hname => ?_)
  refine rx_aload_n C dJx29ce0_ordinal_8abf5_0 0 rfl ?_
  refine rx_getO C (C.2.2.2.2.2.2.2.2.2.1 z hz).2.2.1 sf_Jx29ce0_7 dJx29ce0_ordinal_8abf5_1 ?_
  exact rx_iret C dJx29ce0_ordinal_8abf5_4 (Nat.le_refl _) (Nat.le_refl _) ⟨rfl, rfl⟩
theorem rx_ord (C : rx_C G k p m c cc own nL ret s args meth) {z index : Nat} {rest : List Value} (hz : z < 9) (hlk : Cond.methodLink own index ⟨"BeggarKings$Verb", "ordinal", "()I"⟩ ∈ rx_good) (hR : rx_R (rx_rm 0 0) R 0 0 1 cells slots) (hcat : (rest.map fun v => v.category).sum ≤ 8) (hdg : decode cc pc = .ok (.invokevirtual index, 3)) :
    rx_Run p l e R s m args below meth c G k nL cells slots 0 0 h n pc L (.ref (k (10 + z)) :: rest) rest ((va_Qi (fun r u => nI z = r ∧ u = (h, n)) (rx_B G k) (rx_A k)) #[Value.ref (k (10 + z))]) := fun H locs ls hP hS hl => by
  refine va_runU (rx_fix C) (w_ordinal hz) (C := "BeggarKings$Verb") (owner := "java/lang/Enum") (x := ⟨"BeggarKings$Verb", "ordinal", "()I"⟩) (As := []) (va_cwU 0 C.2.2.2.1 (rx_goodIn fun w hw => ?_) rfl hR.1.1 hR.1.2 rfl ⟨by decide, by decide, by decide +kernel⟩ hR.2.1) ⟨rx_blind, rx_recvO C hS (C.2.2.2.2.2.2.2.2.2.1 z hz).2.1, rx_pre C hP hS _⟩ rfl rfl hl.1 rfl (lv_room hcat) hdg hR.2.2
  simp only [va_wsU, rx_ws, List.mem_append, List.mem_cons, List.not_mem_nil, or_false] at hw
  rcases hw with hw | rfl | hw
  · rcases hw with rfl | rfl | rfl | rfl | rfl
    · exact hlk
    · exact ord_same
    · exact ord_sel
    · exact ord_inst
    · exact ord_ini
  · exact Y_Jx29ce0_ordinal_8abf5.1
  · exact hw
theorem rx_i2c (C : rx_C G k p m c cc own nL ret s args meth) {x v : Int32} (hdg : decode cc pc = .ok (.i2c, 1)) (hv : (x.toUInt32 % 65536).toInt32 = v) (K : rx_W p l e R s m args below meth c Q G k nL cells slots h n (pc + 1) L (.int v :: st)) : rx_W p l e R s m args below meth c Q G k nL cells slots h n pc L (.int x :: st) := fun H locs ls hP hS hl => lv_i2c C.1 C.2.1 hdg hv (K H locs ls hP hS hl)
theorem w_chk {i len : Int32} {fv : Value} (hfv : fv = .null ∨ ∃ t, fv = .ref t) (h0 : ¬ i < 0) (h1 : i < len) : Met l yJ3_checkIndex_8e157 (rx_ws yJ3_checkIndex_8e157 cJ3_checkIndex_8e157 3 (some .int)) (rx_rm 0 0) (va_Pc [.int i, .int len, fv] (rx_G G k h n)) (va_Qi (fun r u => i = r ∧ u = (h, n)) (rx_B G k) (rx_A k)) 0 0 (rx_A k) := by
  refine rx_start [(0, .int i), (1, .int len), (2, fv)] (by rcases hfv with rfl | ⟨t, rfl⟩ <;> rfl) (by rcases hfv with rfl | ⟨t, rfl⟩ <;> exact Nat.le_of_ble_eq_true rfl) (by decide +kernel) rfl (fun P9 E9 S9 M9 A9 B9 me9 c9 C hname => ?_)
  refine rx_iload_n C dJ3_checkIndex_8e157_0 0 rfl ?_
  refine rx_if_lt C dJ3_checkIndex_8e157_1 9 (by decide) (fun c1 => absurd c1 h0) (fun c1 => ?_)
  refine rx_iload_n C dJ3_checkIndex_8e157_4 0 rfl ?_
  refine rx_iload_n C dJ3_checkIndex_8e157_5 1 rfl ?_
  refine rx_icmp_lt C dJ3_checkIndex_8e157_6 16 (by decide) (fun c2 => ?_) (fun c2 => absurd h1 c2)
  refine rx_iload_n C dJ3_checkIndex_8e157_16 0 rfl ?_
  exact rx_iret C dJ3_checkIndex_8e157_17 (Nat.le_refl _) (Nat.le_refl _) ⟨rfl, rfl⟩
theorem w_checkIndex {i len : Int32} (h0 : ¬ i < 0) (h1 : i < len) : Met l yJ0_checkIndex_df160 (rx_ws yJ0_checkIndex_df160 cJ0_checkIndex_df160 2 none) (rx_rm 1 22) (va_Pc [.int i, .int len] (rx_G G k h n)) (va_Qv (fun u => u = (h, n)) (rx_B G k) (rx_A k)) 0 0 (rx_A k) := by
  refine rx_start [(0, .int i), (1, .int len)] rfl (Nat.le_of_ble_eq_true rfl) (by decide +kernel) rfl (fun P9 E9 S9 M9 A9 B9 me9 c9 C hname => ?_)
  refine rx_iload_n C dJ0_checkIndex_df160_0 0 rfl ?_
  refine rx_iload_n C dJ0_checkIndex_df160_1 1 rfl ?_
  have hq := C.2.2.2.2.2.2.2.2.2.2.2.2.2.2.2.2.1
  obtain ⟨fv, hfv, hZ⟩ : ∃ fv : Value, (fv = .null ∨ ∃ t, fv = .ref t) ∧ va_Z RJ3 "SIOOBE_FORMATTER" "Ljava/util/function/BiFunction;" fv (fun q => k 0 ≤ q) S9 S9.heap := by
    rcases hq with hq | ⟨t, hq⟩
    · exact ⟨_, Or.inl rfl, hq⟩
    · exact ⟨_, Or.inr ⟨t, rfl⟩, hq⟩
  have hcat : fv.category = 1 := by rcases hfv with rfl | ⟨t, rfl⟩ <;> rfl
  refine rx_gets C hZ sf_J0_1053 dJ0_checkIndex_df160_2 ?_
  refine rx_ci (rx_rS C (w_chk hfv h0 h1) Y_J3_checkIndex_8e157 S_J3_checkIndex_8e157 m_J0_1059 ⟨⟨rfl, rfl⟩, ⟨Nat.le_of_ble_eq_true rfl, Nat.le_of_ble_eq_true rfl⟩, ⟨Nat.le_of_ble_eq_true rfl, Nat.le_of_ble_eq_true rfl⟩⟩ rfl rfl (Nat.le_of_ble_eq_true rfl) dJ0_checkIndex_df160_5) (fun r hh n1 hp => ?_)
  obtain ⟨rfl, hu⟩ := hp
  cases hu
  refine rx_pop C dJ0_checkIndex_df160_8 rfl ?_
  exact rx_vret C dJ0_checkIndex_df160_9 (Nat.le_refl _) (Nat.le_refl _) rfl
theorem rx_b255 {t : Nat} (ht : t < 14) {j : Nat} (hj : j < rx_len.getD t 0) : (rx_byt.getD t []).getD j 0 &&& 255 = (rx_byt.getD t []).getD j 0 := by
  have h1 : ∀ t, t < 14 → ∀ j, j < rx_len.getD t 0 → (rx_byt.getD t []).getD j 0 &&& 255 = (rx_byt.getD t []).getD j 0 := by decide +kernel
  exact h1 t ht j hj
theorem rx_len31 {t : Nat} : rx_len.getD t 0 < 2 ^ 31 := by
  by_cases ht : t < 14
  · have h1 : ∀ t, t < 14 → rx_len.getD t 0 < 2 ^ 31 := by decide +kernel
    exact h1 t ht
  · rw [List.getD_eq_getElem?_getD, List.getElem?_eq_none (by show 14 ≤ t; omega)]
    exact (by decide : (0 : Nat) < 2 ^ 31)
theorem w_latCharAt {t : Nat} {i v : Int32} (ht : t < 14) (hv : rx_chr t i = some v) : Met l yJ1_charAt_3b067 (rx_ws yJ1_charAt_3b067 cJ1_charAt_3b067 2 (some .char)) (rx_rm 2 43) (va_Pc [.ref (k (200 + t)), .int i] (rx_G G k h n)) (va_Qi (fun r u => v = r ∧ u = (h, n)) (rx_B G k) (rx_A k)) 0 0 (rx_A k) := by
  unfold rx_chr at hv
  split at hv
  rotate_left
  · cases hv
  rename_i hi
  cases hv
  have hc : i.toInt = (i.toNatClampNeg : Int) := by
    have h1 : i.toNatClampNeg = i.toInt.toNat := rfl
    have h2 := Int32.le_iff_toInt_le.mp hi.1
    have h3 : (0 : Int32).toInt = 0 := rfl
    omega
  have h0 : ¬ i < 0 := by rw [Int32.not_lt]; exact hi.1
  have h1 : i < nI (rx_len.getD t 0) := by
    rw [Int32.lt_iff_toInt_lt, nI_toInt rx_len31, hc]
    omega
  refine rx_start [(0, .ref (k (200 + t))), (1, .int i)] rfl (Nat.le_of_ble_eq_true rfl) (by decide +kernel) rfl (fun P9 E9 S9 M9 A9 B9 me9 c9 C hname => ?_)
  have hT := (C.2.2.2.2.2.2.2.2.2.2.2.2.2.2.1.1 t ht).2.2.2
  refine rx_iload_n C dJ1_charAt_3b067_0 1 rfl ?_
  refine rx_aload_n C dJ1_charAt_3b067_1 0 rfl ?_
  refine rx_tlen C hT dJ1_charAt_3b067_2 ?_
  refine rx_cv (rx_rS C (w_checkIndex h0 h1) Y_J0_checkIndex_df160 S_J0_checkIndex_df160 m_J1_9 ⟨⟨rfl, rfl⟩, ⟨Nat.le_of_ble_eq_true rfl, Nat.le_of_ble_eq_true rfl⟩, ⟨Nat.le_of_ble_eq_true rfl, Nat.le_of_ble_eq_true rfl⟩⟩ rfl rfl (Nat.le_of_ble_eq_true rfl) dJ1_charAt_3b067_3) (fun hh n1 hp => ?_)
  cases hp
  refine rx_aload_n C dJ1_charAt_3b067_6 0 rfl ?_
  refine rx_iload_n C dJ1_charAt_3b067_7 1 rfl ?_
  refine rx_tb C hT dJ1_charAt_3b067_8 (rx_vin hi) rfl ?_
  refine rx_sipush C dJ1_charAt_3b067_9 255 (by decide) ?_
  refine rx_iand C dJ1_charAt_3b067_12 ?_
  refine rx_i2c C dJ1_charAt_3b067_13 (sc_c2 _) ?_
  rw [rx_b255 ht hi.2]
  exact rx_zret C (by have := sc_nar ((rx_byt.getD t []).getD i.toNatClampNeg 0); rw [rx_b255 ht hi.2] at this; exact this) dJ1_charAt_3b067_14 (Nat.le_refl _) (Nat.le_refl _) ⟨rfl, rfl⟩
theorem w_isLatin1 {t : Nat} (ht : t < 14) : Met l yJ0_isLatin1_aae02 (rx_ws yJ0_isLatin1_aae02 cJ0_isLatin1_aae02 1 (some .boolean)) (rx_rm 0 0) (va_Pc [.ref (k (100 + t))] (rx_G G k h n)) (va_Qi (fun r u => 1 = r ∧ u = (h, n)) (rx_B G k) (rx_A k)) 0 0 (rx_A k) := by
  refine rx_start [(0, .ref (k (100 + t)))] rfl (Nat.le_of_ble_eq_true rfl) (by decide +kernel) rfl (fun P9 E9 S9 M9 A9 B9 me9 c9 C hname => ?_)
  refine rx_gets C C.2.2.2.2.2.2.2.2.2.2.2.2.2.2.2.1 sf_J0_38 dJ0_isLatin1_aae02_0 ?_
  refine rx_if_eq C dJ0_isLatin1_aae02_3 17 (by decide) (fun c1 => absurd c1 (by decide)) (fun c1 => ?_)
  refine rx_aload_n C dJ0_isLatin1_aae02_6 0 rfl ?_
  refine rx_getO C (C.2.2.2.2.2.2.2.2.2.2.2.2.2.2.1.1 t ht).2.1 sf_J0_15 dJ0_isLatin1_aae02_7 ?_
  refine rx_if_ne C dJ0_isLatin1_aae02_10 17 (by decide) (fun c2 => absurd rfl c2) (fun c2 => ?_)
  refine rx_iconst C dJ0_isLatin1_aae02_13 1 (by decide) ?_
  refine rx_goto C dJ0_isLatin1_aae02_14 18 (by decide) ?_
  exact rx_zret C rfl dJ0_isLatin1_aae02_18 (Nat.le_refl _) (Nat.le_refl _) ⟨rfl, rfl⟩
theorem w_coder {t : Nat} (ht : t < 14) : Met l yJ0_coder_7d493 (rx_ws yJ0_coder_7d493 cJ0_coder_7d493 1 (some .byte)) (rx_rm 0 0) (va_Pc [.ref (k (100 + t))] (rx_G G k h n)) (va_Qi (fun r u => 0 = r ∧ u = (h, n)) (rx_B G k) (rx_A k)) 0 0 (rx_A k) := by
  refine rx_start [(0, .ref (k (100 + t)))] rfl (Nat.le_of_ble_eq_true rfl) (by decide +kernel) rfl (fun P9 E9 S9 M9 A9 B9 me9 c9 C hname => ?_)
  refine rx_gets C C.2.2.2.2.2.2.2.2.2.2.2.2.2.2.2.1 sf_J0_38 dJ0_coder_7d493_0 ?_
  refine rx_if_eq C dJ0_coder_7d493_3 13 (by decide) (fun c1 => absurd c1 (by decide)) (fun c1 => ?_)
  refine rx_aload_n C dJ0_coder_7d493_6 0 rfl ?_
  refine rx_getO C (C.2.2.2.2.2.2.2.2.2.2.2.2.2.2.1.1 t ht).2.1 sf_J0_15 dJ0_coder_7d493_7 ?_
  refine rx_goto C dJ0_coder_7d493_10 14 (by decide) ?_
  exact rx_zret C rfl dJ0_coder_7d493_14 (Nat.le_refl _) (Nat.le_refl _) ⟨rfl, rfl⟩
theorem w_length {t : Nat} (ht : t < 14) : Met l yJ0_length_8abf5 (rx_ws yJ0_length_8abf5 cJ0_length_8abf5 1 (some .int)) (rx_rm 1 20) (va_Pc [.ref (k (100 + t))] (rx_G G k h n)) (va_Qi (fun r u => nI (rx_len.getD t 0) = r ∧ u = (h, n)) (rx_B G k) (rx_A k)) 0 0 (rx_A k) := by
  refine rx_start [(0, .ref (k (100 + t)))] rfl (Nat.le_of_ble_eq_true rfl) (by decide +kernel) rfl (fun P9 E9 S9 M9 A9 B9 me9 c9 C hname => ?_)
  have hS9 := C.2.2.2.2.2.2.2.2.2.2.2.2.2.2.1.1 t ht
  refine rx_aload_n C dJ0_length_8abf5_0 0 rfl ?_
  refine rx_getO C hS9.2.2.1 sf_J0_9 dJ0_length_8abf5_1 ?_
  refine rx_tlen C hS9.2.2.2 dJ0_length_8abf5_4 ?_
  refine rx_aload_n C dJ0_length_8abf5_5 0 rfl ?_
  refine rx_ci (rx_rV C (w_coder ht) Y_J0_coder_7d493 V_J0_coder_7d493 m_J0_335 (Or.inr hS9.1) ⟨⟨rfl, rfl⟩, ⟨Nat.le_of_ble_eq_true rfl, Nat.le_of_ble_eq_true rfl⟩, ⟨Nat.le_of_ble_eq_true rfl, Nat.le_of_ble_eq_true rfl⟩⟩ rfl rfl (Nat.le_of_ble_eq_true rfl) dJ0_length_8abf5_6) (fun r hh n1 hp => ?_)
  obtain ⟨rfl, hu⟩ := hp
  cases hu
  refine rx_ishr C dJ0_length_8abf5_9 ?_
  rw [sb_shr0]
  exact rx_iret C dJ0_length_8abf5_10 (Nat.le_refl _) (Nat.le_refl _) ⟨rfl, rfl⟩
theorem w_charAt {t : Nat} {i v : Int32} (ht : t < 14) (hv : rx_chr t i = some v) (hb : v = v &&& 255) : Met l yJ0_charAt_5068e (rx_ws yJ0_charAt_5068e cJ0_charAt_5068e 2 (some .char)) (rx_rm 3 64) (va_Pc [.ref (k (100 + t)), .int i] (rx_G G k h n)) (va_Qi (fun r u => v = r ∧ u = (h, n)) (rx_B G k) (rx_A k)) 0 0 (rx_A k) := by
  refine rx_start [(0, .ref (k (100 + t))), (1, .int i)] rfl (Nat.le_of_ble_eq_true rfl) (by decide +kernel) rfl (fun P9 E9 S9 M9 A9 B9 me9 c9 C hname => ?_)
  have hS9 := C.2.2.2.2.2.2.2.2.2.2.2.2.2.2.1.1 t ht
  refine rx_aload_n C dJ0_charAt_5068e_0 0 rfl ?_
  refine rx_ci (rx_rV C (w_isLatin1 ht) Y_J0_isLatin1_aae02 V_J0_isLatin1_aae02 m_J0_492 (Or.inr hS9.1) ⟨⟨rfl, rfl⟩, ⟨Nat.le_of_ble_eq_true rfl, Nat.le_of_ble_eq_true rfl⟩, ⟨Nat.le_of_ble_eq_true rfl, Nat.le_of_ble_eq_true rfl⟩⟩ rfl rfl (Nat.le_of_ble_eq_true rfl) dJ0_charAt_5068e_1) (fun r hh n1 hp => ?_)
  obtain ⟨rfl, hu⟩ := hp
  cases hu
  refine rx_if_eq C dJ0_charAt_5068e_4 16 (by decide) (fun c1 => absurd c1 (by decide)) (fun c1 => ?_)
  refine rx_aload_n C dJ0_charAt_5068e_7 0 rfl ?_
  refine rx_getO C hS9.2.2.1 sf_J0_9 dJ0_charAt_5068e_8 ?_
  refine rx_iload_n C dJ0_charAt_5068e_11 1 rfl ?_
  refine rx_ci (rx_rS C (w_latCharAt ht hv) Y_J1_charAt_3b067 S_J1_charAt_3b067 m_J0_495 ⟨⟨rfl, rfl⟩, ⟨Nat.le_of_ble_eq_true rfl, Nat.le_of_ble_eq_true rfl⟩, ⟨Nat.le_of_ble_eq_true rfl, Nat.le_of_ble_eq_true rfl⟩⟩ rfl rfl (Nat.le_of_ble_eq_true rfl) dJ0_charAt_5068e_12) (fun r hh n1 hp => ?_)
  obtain ⟨rfl, hu⟩ := hp
  cases hu
  exact rx_zret C (by rw [hb]; exact sc_nar v) dJ0_charAt_5068e_15 (Nat.le_refl _) (Nat.le_refl _) ⟨rfl, rfl⟩
theorem rx_chr255 {t : Nat} {i v : Int32} (ht : t < 14) (hv : rx_chr t i = some v) : v = v &&& 255 := by
  unfold rx_chr at hv
  split at hv
  · rename_i hi
    cases hv
    exact (rx_b255 ht hi.2).symm
  · cases hv
theorem rx_ldcSw (C : rx_C G k p m c cc own nL ret s args meth) {tx : String} {index t : Nat} (hm : (own, index, tx, t) ∈ rx_sr) (hdg : decode cc pc = .ok (.ldc_w index, 3))
    (K : rx_W p l e R s m args below meth c Q G k nL cells slots h n (pc + 3) L (.ref (k (100 + t)) :: st)) : rx_W p l e R s m args below meth c Q G k nL cells slots h n pc L st := fun H locs ls hP hS hl => by
  intro T hT X
  obtain ⟨t1, a1, b1⟩ := K H locs ls hP hS hl T hT X
  have hZ := C.2.2.2.2.2.2.2.2.1 _ hm
  exact ⟨t1, X.ldcStringW C.1 C.2.2.1 (text := tx) (a := k (100 + t)) hZ.1 hZ.2 (g := F0 m pc ls st) rfl (by rw [C.2.1]; exact hdg) t1 a1, b1⟩
end RXS
end
